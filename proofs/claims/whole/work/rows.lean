section
-- ===== PART A: goes FIRST, ahead of the names: the tables' words, and 'selects' of the private methods out of them =====
/-- a private method of a class that the tables say can be made, by its rows of tables_1 -/
def lw_okq (q : MethodName × Nat) : Prop := (q.1.cls ≠ "java/lang/invoke/MethodHandle" ∧ q.1.cls ≠ "java/lang/invoke/VarHandle") ∧ Cond.instantiable q.1.cls q.2 ∈ tables_1 ∧ Cond.privateMethod q.1 ∈ tables_1 ∧ Cond.instanceMethod q.1 ∈ tables_1
theorem lw_p0 : lw_okq (⟨"TraceLine", "makeEmpty", "()V"⟩, 17) := ⟨⟨by decide +kernel, by decide +kernel⟩, List.mem_of_getElem? (i := 8) (by decide +kernel), List.mem_of_getElem? (i := 16) (by decide +kernel), List.mem_of_getElem? (i := 17) (by decide +kernel)⟩
theorem lw_p1 : lw_okq (⟨"TraceLine", "leastFreeNumber", "()I"⟩, 17) := ⟨⟨by decide +kernel, by decide +kernel⟩, List.mem_of_getElem? (i := 8) (by decide +kernel), List.mem_of_getElem? (i := 78) (by decide +kernel), List.mem_of_getElem? (i := 79) (by decide +kernel)⟩
theorem lw_p2 : lw_okq (⟨"TraceLine", "lastKind", "()I"⟩, 17) := ⟨⟨by decide +kernel, by decide +kernel⟩, List.mem_of_getElem? (i := 8) (by decide +kernel), List.mem_of_getElem? (i := 82) (by decide +kernel), List.mem_of_getElem? (i := 83) (by decide +kernel)⟩
theorem lw_p3 : lw_okq (⟨"TraceLine", "putAtCursor", "(I)V"⟩, 17) := ⟨⟨by decide +kernel, by decide +kernel⟩, List.mem_of_getElem? (i := 8) (by decide +kernel), List.mem_of_getElem? (i := 86) (by decide +kernel), List.mem_of_getElem? (i := 87) (by decide +kernel)⟩
theorem lw_p4 : lw_okq (⟨"TraceLine", "setPlace", "(II)V"⟩, 17) := ⟨⟨by decide +kernel, by decide +kernel⟩, List.mem_of_getElem? (i := 8) (by decide +kernel), List.mem_of_getElem? (i := 90) (by decide +kernel), List.mem_of_getElem? (i := 91) (by decide +kernel)⟩
theorem lw_p5 : lw_okq (⟨"TraceLine", "lastOpen", "()I"⟩, 17) := ⟨⟨by decide +kernel, by decide +kernel⟩, List.mem_of_getElem? (i := 8) (by decide +kernel), List.mem_of_getElem? (i := 101) (by decide +kernel), List.mem_of_getElem? (i := 102) (by decide +kernel)⟩
theorem lw_p6 : lw_okq (⟨"TraceLine", "lastInterval", "()I"⟩, 17) := ⟨⟨by decide +kernel, by decide +kernel⟩, List.mem_of_getElem? (i := 8) (by decide +kernel), List.mem_of_getElem? (i := 110) (by decide +kernel), List.mem_of_getElem? (i := 111) (by decide +kernel)⟩
theorem lw_p7 : lw_okq (⟨"TraceLine", "isThere", "(I)Z"⟩, 17) := ⟨⟨by decide +kernel, by decide +kernel⟩, List.mem_of_getElem? (i := 8) (by decide +kernel), List.mem_of_getElem? (i := 118) (by decide +kernel), List.mem_of_getElem? (i := 119) (by decide +kernel)⟩
theorem lw_p8 : lw_okq (⟨"TraceLine", "isEnded", "(I)Z"⟩, 17) := ⟨⟨by decide +kernel, by decide +kernel⟩, List.mem_of_getElem? (i := 8) (by decide +kernel), List.mem_of_getElem? (i := 122) (by decide +kernel), List.mem_of_getElem? (i := 123) (by decide +kernel)⟩
theorem lw_p9 : lw_okq (⟨"TraceLine", "firstStaleAhead", "()I"⟩, 17) := ⟨⟨by decide +kernel, by decide +kernel⟩, List.mem_of_getElem? (i := 8) (by decide +kernel), List.mem_of_getElem? (i := 130) (by decide +kernel), List.mem_of_getElem? (i := 131) (by decide +kernel)⟩
theorem lw_p10 : lw_okq (⟨"TraceLine", "aheadUpTo", "()I"⟩, 17) := ⟨⟨by decide +kernel, by decide +kernel⟩, List.mem_of_getElem? (i := 8) (by decide +kernel), List.mem_of_getElem? (i := 134) (by decide +kernel), List.mem_of_getElem? (i := 135) (by decide +kernel)⟩
theorem lw_p11 : lw_okq (⟨"TraceLine", "putFrame", "(II)V"⟩, 17) := ⟨⟨by decide +kernel, by decide +kernel⟩, List.mem_of_getElem? (i := 8) (by decide +kernel), List.mem_of_getElem? (i := 138) (by decide +kernel), List.mem_of_getElem? (i := 139) (by decide +kernel)⟩
theorem lw_p12 : lw_okq (⟨"TraceLine", "firstFreshAhead", "(I)I"⟩, 17) := ⟨⟨by decide +kernel, by decide +kernel⟩, List.mem_of_getElem? (i := 8) (by decide +kernel), List.mem_of_getElem? (i := 146) (by decide +kernel), List.mem_of_getElem? (i := 147) (by decide +kernel)⟩
theorem lw_p13 : lw_okq (⟨"TraceLine", "erase", "(II)V"⟩, 17) := ⟨⟨by decide +kernel, by decide +kernel⟩, List.mem_of_getElem? (i := 8) (by decide +kernel), List.mem_of_getElem? (i := 150) (by decide +kernel), List.mem_of_getElem? (i := 151) (by decide +kernel)⟩
theorem lw_p14 : lw_okq (⟨"TraceLine", "forget", "(I)V"⟩, 17) := ⟨⟨by decide +kernel, by decide +kernel⟩, List.mem_of_getElem? (i := 8) (by decide +kernel), List.mem_of_getElem? (i := 154) (by decide +kernel), List.mem_of_getElem? (i := 155) (by decide +kernel)⟩
theorem lw_p15 : lw_okq (⟨"TraceLine", "mayMove", "()Z"⟩, 17) := ⟨⟨by decide +kernel, by decide +kernel⟩, List.mem_of_getElem? (i := 8) (by decide +kernel), List.mem_of_getElem? (i := 166) (by decide +kernel), List.mem_of_getElem? (i := 167) (by decide +kernel)⟩
def lw_privs_1 : List (MethodName × Nat) := [(⟨"TraceLine", "makeEmpty", "()V"⟩, 17), (⟨"TraceLine", "leastFreeNumber", "()I"⟩, 17), (⟨"TraceLine", "lastKind", "()I"⟩, 17), (⟨"TraceLine", "putAtCursor", "(I)V"⟩, 17), (⟨"TraceLine", "setPlace", "(II)V"⟩, 17), (⟨"TraceLine", "lastOpen", "()I"⟩, 17), (⟨"TraceLine", "lastInterval", "()I"⟩, 17), (⟨"TraceLine", "isThere", "(I)Z"⟩, 17), (⟨"TraceLine", "isEnded", "(I)Z"⟩, 17), (⟨"TraceLine", "firstStaleAhead", "()I"⟩, 17), (⟨"TraceLine", "aheadUpTo", "()I"⟩, 17), (⟨"TraceLine", "putFrame", "(II)V"⟩, 17), (⟨"TraceLine", "firstFreshAhead", "(I)I"⟩, 17), (⟨"TraceLine", "erase", "(II)V"⟩, 17), (⟨"TraceLine", "forget", "(I)V"⟩, 17), (⟨"TraceLine", "mayMove", "()Z"⟩, 17)]
theorem lw_r1 : ∀ q ∈ lw_privs_1, lw_okq q := List.forall_mem_cons.mpr ⟨lw_p0, List.forall_mem_cons.mpr ⟨lw_p1, List.forall_mem_cons.mpr ⟨lw_p2, List.forall_mem_cons.mpr ⟨lw_p3, List.forall_mem_cons.mpr ⟨lw_p4, List.forall_mem_cons.mpr ⟨lw_p5, List.forall_mem_cons.mpr ⟨lw_p6, List.forall_mem_cons.mpr ⟨lw_p7, List.forall_mem_cons.mpr ⟨lw_p8, List.forall_mem_cons.mpr ⟨lw_p9, List.forall_mem_cons.mpr ⟨lw_p10, List.forall_mem_cons.mpr ⟨lw_p11, List.forall_mem_cons.mpr ⟨lw_p12, List.forall_mem_cons.mpr ⟨lw_p13, List.forall_mem_cons.mpr ⟨lw_p14, List.forall_mem_cons.mpr ⟨lw_p15, fun _ h => absurd h List.not_mem_nil⟩⟩⟩⟩⟩⟩⟩⟩⟩⟩⟩⟩⟩⟩⟩⟩
theorem lw_p16 : lw_okq (⟨"java/lang/Throwable", "fillInStackTrace", "(I)Ljava/lang/Throwable;"⟩, 6) := ⟨⟨by decide +kernel, by decide +kernel⟩, List.mem_of_getElem? (i := 230) (by decide +kernel), List.mem_of_getElem? (i := 228) (by decide +kernel), List.mem_of_getElem? (i := 229) (by decide +kernel)⟩
theorem lw_p17 : lw_okq (⟨"TraceLine", "stateOf", "(I)I"⟩, 17) := ⟨⟨by decide +kernel, by decide +kernel⟩, List.mem_of_getElem? (i := 8) (by decide +kernel), List.mem_of_getElem? (i := 260) (by decide +kernel), List.mem_of_getElem? (i := 261) (by decide +kernel)⟩
theorem lw_p18 : lw_okq (⟨"TraceLine", "innermostAround", "(I)I"⟩, 17) := ⟨⟨by decide +kernel, by decide +kernel⟩, List.mem_of_getElem? (i := 8) (by decide +kernel), List.mem_of_getElem? (i := 264) (by decide +kernel), List.mem_of_getElem? (i := 265) (by decide +kernel)⟩
theorem lw_p19 : lw_okq (⟨"TraceLine", "weightWithin", "(I)I"⟩, 17) := ⟨⟨by decide +kernel, by decide +kernel⟩, List.mem_of_getElem? (i := 8) (by decide +kernel), List.mem_of_getElem? (i := 268) (by decide +kernel), List.mem_of_getElem? (i := 269) (by decide +kernel)⟩
theorem lw_p20 : lw_okq (⟨"TraceLineModel", "last", "()I"⟩, 17) := ⟨⟨by decide +kernel, by decide +kernel⟩, List.mem_of_getElem? (i := 273) (by decide +kernel), List.mem_of_getElem? (i := 339) (by decide +kernel), List.mem_of_getElem? (i := 340) (by decide +kernel)⟩
theorem lw_p21 : lw_okq (⟨"TraceLineModel", "put", "(I)V"⟩, 17) := ⟨⟨by decide +kernel, by decide +kernel⟩, List.mem_of_getElem? (i := 273) (by decide +kernel), List.mem_of_getElem? (i := 343) (by decide +kernel), List.mem_of_getElem? (i := 344) (by decide +kernel)⟩
theorem lw_p22 : lw_okq (⟨"TraceLineModel", "hasOpen", "()Z"⟩, 17) := ⟨⟨by decide +kernel, by decide +kernel⟩, List.mem_of_getElem? (i := 273) (by decide +kernel), List.mem_of_getElem? (i := 351) (by decide +kernel), List.mem_of_getElem? (i := 352) (by decide +kernel)⟩
theorem lw_p23 : lw_okq (⟨"TraceLineModel", "allWeights", "()J"⟩, 17) := ⟨⟨by decide +kernel, by decide +kernel⟩, List.mem_of_getElem? (i := 273) (by decide +kernel), List.mem_of_getElem? (i := 359) (by decide +kernel), List.mem_of_getElem? (i := 360) (by decide +kernel)⟩
theorem lw_p24 : lw_okq (⟨"TraceLineModel", "isThere", "(I)Z"⟩, 17) := ⟨⟨by decide +kernel, by decide +kernel⟩, List.mem_of_getElem? (i := 273) (by decide +kernel), List.mem_of_getElem? (i := 368) (by decide +kernel), List.mem_of_getElem? (i := 369) (by decide +kernel)⟩
theorem lw_p25 : lw_okq (⟨"TraceLineModel", "isEnded", "(I)Z"⟩, 17) := ⟨⟨by decide +kernel, by decide +kernel⟩, List.mem_of_getElem? (i := 273) (by decide +kernel), List.mem_of_getElem? (i := 372) (by decide +kernel), List.mem_of_getElem? (i := 373) (by decide +kernel)⟩
theorem lw_p26 : lw_okq (⟨"TraceLineModel", "find", "(I)I"⟩, 17) := ⟨⟨by decide +kernel, by decide +kernel⟩, List.mem_of_getElem? (i := 273) (by decide +kernel), List.mem_of_getElem? (i := 376) (by decide +kernel), List.mem_of_getElem? (i := 377) (by decide +kernel)⟩
theorem lw_p27 : lw_okq (⟨"TraceLineModel", "limit", "()I"⟩, 17) := ⟨⟨by decide +kernel, by decide +kernel⟩, List.mem_of_getElem? (i := 273) (by decide +kernel), List.mem_of_getElem? (i := 384) (by decide +kernel), List.mem_of_getElem? (i := 385) (by decide +kernel)⟩
theorem lw_p28 : lw_okq (⟨"TraceLineModel", "frame", "(IZ)V"⟩, 17) := ⟨⟨by decide +kernel, by decide +kernel⟩, List.mem_of_getElem? (i := 273) (by decide +kernel), List.mem_of_getElem? (i := 388) (by decide +kernel), List.mem_of_getElem? (i := 389) (by decide +kernel)⟩
theorem lw_p29 : lw_okq (⟨"TraceLineModel", "isAhead", "(I)Z"⟩, 17) := ⟨⟨by decide +kernel, by decide +kernel⟩, List.mem_of_getElem? (i := 273) (by decide +kernel), List.mem_of_getElem? (i := 396) (by decide +kernel), List.mem_of_getElem? (i := 397) (by decide +kernel)⟩
theorem lw_p30 : lw_okq (⟨"TraceLineModel", "erase", "(II)V"⟩, 17) := ⟨⟨by decide +kernel, by decide +kernel⟩, List.mem_of_getElem? (i := 273) (by decide +kernel), List.mem_of_getElem? (i := 400) (by decide +kernel), List.mem_of_getElem? (i := 401) (by decide +kernel)⟩
theorem lw_p31 : lw_okq (⟨"TraceLineModel", "isFree", "()Z"⟩, 17) := ⟨⟨by decide +kernel, by decide +kernel⟩, List.mem_of_getElem? (i := 273) (by decide +kernel), List.mem_of_getElem? (i := 412) (by decide +kernel), List.mem_of_getElem? (i := 413) (by decide +kernel)⟩
def lw_privs_2 : List (MethodName × Nat) := [(⟨"java/lang/Throwable", "fillInStackTrace", "(I)Ljava/lang/Throwable;"⟩, 6), (⟨"TraceLine", "stateOf", "(I)I"⟩, 17), (⟨"TraceLine", "innermostAround", "(I)I"⟩, 17), (⟨"TraceLine", "weightWithin", "(I)I"⟩, 17), (⟨"TraceLineModel", "last", "()I"⟩, 17), (⟨"TraceLineModel", "put", "(I)V"⟩, 17), (⟨"TraceLineModel", "hasOpen", "()Z"⟩, 17), (⟨"TraceLineModel", "allWeights", "()J"⟩, 17), (⟨"TraceLineModel", "isThere", "(I)Z"⟩, 17), (⟨"TraceLineModel", "isEnded", "(I)Z"⟩, 17), (⟨"TraceLineModel", "find", "(I)I"⟩, 17), (⟨"TraceLineModel", "limit", "()I"⟩, 17), (⟨"TraceLineModel", "frame", "(IZ)V"⟩, 17), (⟨"TraceLineModel", "isAhead", "(I)Z"⟩, 17), (⟨"TraceLineModel", "erase", "(II)V"⟩, 17), (⟨"TraceLineModel", "isFree", "()Z"⟩, 17)]
theorem lw_r2 : ∀ q ∈ lw_privs_2, lw_okq q := List.forall_mem_cons.mpr ⟨lw_p16, List.forall_mem_cons.mpr ⟨lw_p17, List.forall_mem_cons.mpr ⟨lw_p18, List.forall_mem_cons.mpr ⟨lw_p19, List.forall_mem_cons.mpr ⟨lw_p20, List.forall_mem_cons.mpr ⟨lw_p21, List.forall_mem_cons.mpr ⟨lw_p22, List.forall_mem_cons.mpr ⟨lw_p23, List.forall_mem_cons.mpr ⟨lw_p24, List.forall_mem_cons.mpr ⟨lw_p25, List.forall_mem_cons.mpr ⟨lw_p26, List.forall_mem_cons.mpr ⟨lw_p27, List.forall_mem_cons.mpr ⟨lw_p28, List.forall_mem_cons.mpr ⟨lw_p29, List.forall_mem_cons.mpr ⟨lw_p30, List.forall_mem_cons.mpr ⟨lw_p31, fun _ h => absurd h List.not_mem_nil⟩⟩⟩⟩⟩⟩⟩⟩⟩⟩⟩⟩⟩⟩⟩⟩
theorem lw_p32 : lw_okq (⟨"TraceLineModel", "around", "(I)I"⟩, 17) := ⟨⟨by decide +kernel, by decide +kernel⟩, List.mem_of_getElem? (i := 273) (by decide +kernel), List.mem_of_getElem? (i := 428) (by decide +kernel), List.mem_of_getElem? (i := 429) (by decide +kernel)⟩
theorem lw_p33 : lw_okq (⟨"TraceLineModel", "endOf", "(I)I"⟩, 17) := ⟨⟨by decide +kernel, by decide +kernel⟩, List.mem_of_getElem? (i := 273) (by decide +kernel), List.mem_of_getElem? (i := 432) (by decide +kernel), List.mem_of_getElem? (i := 433) (by decide +kernel)⟩
theorem lw_p34 : lw_okq (⟨"TraceLineModel", "sumOf", "(I)I"⟩, 17) := ⟨⟨by decide +kernel, by decide +kernel⟩, List.mem_of_getElem? (i := 273) (by decide +kernel), List.mem_of_getElem? (i := 436) (by decide +kernel), List.mem_of_getElem? (i := 437) (by decide +kernel)⟩
def lw_privs_3 : List (MethodName × Nat) := [(⟨"TraceLineModel", "around", "(I)I"⟩, 17), (⟨"TraceLineModel", "endOf", "(I)I"⟩, 17), (⟨"TraceLineModel", "sumOf", "(I)I"⟩, 17)]
theorem lw_r3 : ∀ q ∈ lw_privs_3, lw_okq q := List.forall_mem_cons.mpr ⟨lw_p32, List.forall_mem_cons.mpr ⟨lw_p33, List.forall_mem_cons.mpr ⟨lw_p34, fun _ h => absurd h List.not_mem_nil⟩⟩⟩
def lw_privs : List (MethodName × Nat) := lw_privs_1 ++ (lw_privs_2 ++ (lw_privs_3))
def lw_tbl : List Cond := k2_sels lw_privs ++ tables_1
theorem lw_privs_ok : ∀ q ∈ lw_privs, lw_okq q := by
  show ∀ q ∈ lw_privs_1 ++ (lw_privs_2 ++ (lw_privs_3)), lw_okq q
  exact List.forall_mem_append.mpr ⟨lw_r1, List.forall_mem_append.mpr ⟨lw_r2, lw_r3⟩⟩
end
section
/-! ===== BEGIN words of one list among another's, by their places ===== -/
theorem goodIn_r {big : List Cond} (ws : List Cond) (ps : List Nat) (hp : ws = ps.filterMap (fun i => big[i]?)) (h : ws.all goodWord = true) : GoodIn big ws := by
  intro w hw
  have h1 := List.all_eq_true.mp h w hw
  rw [hp] at hw
  obtain ⟨i, -, hi⟩ := List.mem_filterMap.mp hw
  have hm : w ∈ big := by first | exact List.mem_of_getElem? hi | exact List.getElem?_mem hi
  exact ⟨hm, good_of_word h1⟩
theorem goodIn_app {big a b : List Cond} (ha : GoodIn big a) (hb : GoodIn big b) : GoodIn big (a ++ b) := fun w h => (List.mem_append.mp h).elim (ha w) (hb w)
theorem goodIn_ca {big a b : List Cond} {c : Cond} (ha : GoodIn big (c :: a)) (hb : GoodIn big b) : GoodIn big (c :: (a ++ b)) := fun w h => (List.mem_cons.mp h).elim (fun e => ha w (List.mem_cons.mpr (Or.inl e))) (fun h => (List.mem_append.mp h).elim (fun h => ha w (List.mem_cons.mpr (Or.inr h))) (hb w))
theorem goodIn_sub {big ws : List Cond} (hm : ∀ w ∈ ws, w ∈ big) (h : ws.all goodWord = true) : GoodIn big ws := fun w hw => ⟨hm w hw, good_of_word (List.all_eq_true.mp h w hw)⟩
/-! ===== END ===== -/
theorem gi_V {L : List Cond} {own C : String} {idx : Nat} {y : MethodName} {cd : Cond} (hL : GoodIn L L) (h1 : Cond.methodLink own idx y ∈ L) (h2 : Cond.instanceMethod y ∈ L) (h3 : Cond.selects C y y ∈ L) (h4 : Cond.initialized C ∈ L) (h5 : cd ∈ L) : GoodIn L (wsV own idx C y (cd :: L)) := by
  intro w hw
  unfold wsV at hw
  rcases List.mem_append.mp hw with h | h
  · rcases List.mem_cons.mp h with rfl | h
    · exact hL _ h1
    · rcases List.mem_cons.mp h with rfl | h
      · exact hL _ h2
      · rcases List.mem_cons.mp h with rfl | h
        · exact hL _ h3
        · rcases List.mem_cons.mp h with rfl | h
          · exact hL _ h4
          · cases h
  · rcases List.mem_cons.mp h with rfl | h
    · exact hL _ h5
    · exact hL _ h
theorem gi_S {L : List Cond} {own : String} {idx : Nat} {y : MethodName} {cd : Cond} (hL : GoodIn L L) (h1 : Cond.methodLink own idx y ∈ L) (h2 : Cond.static y ∈ L) (h4 : Cond.initialized own ∈ L) (h5 : cd ∈ L) : GoodIn L (wsS own idx y (cd :: L)) := by
  intro w hw
  unfold wsS at hw
  rcases List.mem_append.mp hw with h | h
  · rcases List.mem_cons.mp h with rfl | h
    · exact hL _ h1
    · rcases List.mem_cons.mp h with rfl | h
      · exact hL _ h2
      · rcases List.mem_cons.mp h with rfl | h
        · exact hL _ h4
        · cases h
  · rcases List.mem_cons.mp h with rfl | h
    · exact hL _ h5
    · exact hL _ h
def RX0 : String := "TraceLine"
def TX0 : u_T := fun k => match k with
  | 0 => ("TraceLine", "keys", "[I", true)
  | 1 => ("TraceLine", "weights", "[I", true)
  | 2 => ("TraceLine", "startAt", "[I", true)
  | 3 => ("TraceLine", "endAt", "[I", true)
  | 4 => ("TraceLine", "staleMark", "[Z", true)
  | 5 => ("TraceLine", "intervals", "I", false)
  | 6 => ("TraceLine", "staleOnes", "I", false)
  | 7 => ("TraceLine", "line", "[I", true)
  | 8 => ("TraceLine", "events", "I", false)
  | 9 => ("TraceLine", "cursor", "I", false)
  | 10 => ("TraceLine", "weightInAll", "I", false)
  | 11 => ("TraceLine", "frameInterval", "[I", true)
  | 12 => ("TraceLine", "frameKind", "[I", true)
  | 13 => ("TraceLine", "frameOpenBelow", "[I", true)
  | 14 => ("TraceLine", "frames", "I", false)
  | 15 => ("TraceLine", "open", "[I", true)
  | _ => ("TraceLine", "openOnes", "I", false)
def tyX0 : Nat → FieldType := fun k => match k with
  | 0 => .array .int
  | 1 => .array .int
  | 2 => .array .int
  | 3 => .array .int
  | 4 => .array .boolean
  | 5 => .int
  | 6 => .int
  | 7 => .array .int
  | 8 => .int
  | 9 => .int
  | 10 => .int
  | 11 => .array .int
  | 12 => .array .int
  | 13 => .array .int
  | 14 => .int
  | 15 => .array .int
  | _ => .int
abbrev wsX00 : List Cond := u_ws RX0 TX0 17
theorem nmX0 : ∀ a, a < 17 → ∀ b, b < 17 → a ≠ b → (TX0 a).2.1 ≠ (TX0 b).2.1 := by decide +kernel
theorem tyX0_ok : ∀ k, k < 17 → parseFieldDescriptor (TX0 k).2.2.1 = some (tyX0 k) := by decide +kernel
abbrev cX0_init : ByteArray := prog_1_method_1_code
def yX0_init : MethodName := ⟨RX0, "<init>", "()V"⟩
abbrev cX0_makeEmpty : ByteArray := prog_1_method_15_code
def yX0_makeEmpty : MethodName := ⟨RX0, "makeEmpty", "()V"⟩
abbrev cX0_begin : ByteArray := prog_1_method_2_code
def yX0_begin : MethodName := ⟨RX0, "begin", "(I)I"⟩
abbrev cX0_leastFreeNumber : ByteArray := prog_1_method_18_code
def yX0_leastFreeNumber : MethodName := ⟨RX0, "leastFreeNumber", "()I"⟩
abbrev cX0_lastKind : ByteArray := prog_1_method_32_code
def yX0_lastKind : MethodName := ⟨RX0, "lastKind", "()I"⟩
abbrev cX0_putAtCursor : ByteArray := prog_1_method_24_code
def yX0_putAtCursor : MethodName := ⟨RX0, "putAtCursor", "(I)V"⟩
abbrev cX0_setPlace : ByteArray := prog_1_method_23_code
def yX0_setPlace : MethodName := ⟨RX0, "setPlace", "(II)V"⟩
abbrev cX0_isStart : ByteArray := prog_1_method_22_code
def yX0_isStart : MethodName := ⟨RX0, "isStart", "(I)Z"⟩
abbrev cX0_end : ByteArray := prog_1_method_3_code
def yX0_end : MethodName := ⟨RX0, "end", "()I"⟩
abbrev cX0_lastOpen : ByteArray := prog_1_method_33_code
def yX0_lastOpen : MethodName := ⟨RX0, "lastOpen", "()I"⟩
abbrev cX0_weigh : ByteArray := prog_1_method_4_code
def yX0_weigh : MethodName := ⟨RX0, "weigh", "(I)Z"⟩
abbrev cX0_lastInterval : ByteArray := prog_1_method_31_code
def yX0_lastInterval : MethodName := ⟨RX0, "lastInterval", "()I"⟩
abbrev cX0_stale : ByteArray := prog_1_method_5_code
def yX0_stale : MethodName := ⟨RX0, "stale", "(I)Z"⟩
abbrev cX0_isThere : ByteArray := prog_1_method_16_code
def yX0_isThere : MethodName := ⟨RX0, "isThere", "(I)Z"⟩
abbrev cX0_isEnded : ByteArray := prog_1_method_17_code
def yX0_isEnded : MethodName := ⟨RX0, "isEnded", "(I)Z"⟩
abbrev cX0_resume : ByteArray := prog_1_method_6_code
def yX0_resume : MethodName := ⟨RX0, "resume", "()I"⟩
abbrev cX0_firstStaleAhead : ByteArray := prog_1_method_27_code
def yX0_firstStaleAhead : MethodName := ⟨RX0, "firstStaleAhead", "()I"⟩
abbrev cX0_aheadUpTo : ByteArray := prog_1_method_29_code
def yX0_aheadUpTo : MethodName := ⟨RX0, "aheadUpTo", "()I"⟩
abbrev cX0_putFrame : ByteArray := prog_1_method_34_code
def yX0_putFrame : MethodName := ⟨RX0, "putFrame", "(II)V"⟩
abbrev cX0_take : ByteArray := prog_1_method_7_code
def yX0_take : MethodName := ⟨RX0, "take", "(I)I"⟩
abbrev cX0_firstFreshAhead : ByteArray := prog_1_method_28_code
def yX0_firstFreshAhead : MethodName := ⟨RX0, "firstFreshAhead", "(I)I"⟩
abbrev cX0_erase : ByteArray := prog_1_method_25_code
def yX0_erase : MethodName := ⟨RX0, "erase", "(II)V"⟩
abbrev cX0_forget : ByteArray := prog_1_method_26_code
def yX0_forget : MethodName := ⟨RX0, "forget", "(I)V"⟩
abbrev cX0_done : ByteArray := prog_1_method_8_code
def yX0_done : MethodName := ⟨RX0, "done", "()I"⟩
abbrev cX0_toEnd : ByteArray := prog_1_method_9_code
def yX0_toEnd : MethodName := ⟨RX0, "toEnd", "()Z"⟩
abbrev cX0_mayMove : ByteArray := prog_1_method_30_code
def yX0_mayMove : MethodName := ⟨RX0, "mayMove", "()Z"⟩
abbrev cX0_toBegin : ByteArray := prog_1_method_10_code
def yX0_toBegin : MethodName := ⟨RX0, "toBegin", "()Z"⟩
abbrev cX0_wipe : ByteArray := prog_1_method_11_code
def yX0_wipe : MethodName := ⟨RX0, "wipe", "()V"⟩
abbrev cX0_event : ByteArray := prog_1_method_13_code
def yX0_event : MethodName := ⟨RX0, "event", "(I)I"⟩
abbrev cX0_look : ByteArray := prog_1_method_14_code
def yX0_look : MethodName := ⟨RX0, "look", "(I)I"⟩
abbrev cX0_of : ByteArray := prog_1_method_12_code
def yX0_of : MethodName := ⟨RX0, "of", "(II)I"⟩
abbrev cX0_stateOf : ByteArray := prog_1_method_19_code
def yX0_stateOf : MethodName := ⟨RX0, "stateOf", "(I)I"⟩
abbrev cX0_innermostAround : ByteArray := prog_1_method_20_code
def yX0_innermostAround : MethodName := ⟨RX0, "innermostAround", "(I)I"⟩
abbrev cX0_weightWithin : ByteArray := prog_1_method_21_code
def yX0_weightWithin : MethodName := ⟨RX0, "weightWithin", "(I)I"⟩
def wX_r0 : List Cond := [Cond.instanceMethod yX0_init, Cond.code yX0_init cX0_init 1 none, Cond.methodLink RX0 3 objectInit, Cond.methodLink RX0 41 yX0_makeEmpty, Cond.instanceMethod yX0_makeEmpty, Cond.code yX0_makeEmpty cX0_makeEmpty 2 none, Cond.fieldLink RX0 9 "TraceLine" "keys" "[I", Cond.fieldLink RX0 13 "TraceLine" "weights" "[I", Cond.fieldLink RX0 16 "TraceLine" "startAt" "[I", Cond.fieldLink RX0 19 "TraceLine" "endAt" "[I", Cond.fieldLink RX0 22 "TraceLine" "staleMark" "[Z", Cond.fieldLink RX0 55 "TraceLine" "intervals" "I", Cond.fieldLink RX0 79 "TraceLine" "staleOnes" "I", Cond.fieldLink RX0 26 "TraceLine" "line" "[I", Cond.fieldLink RX0 106 "TraceLine" "events" "I", Cond.fieldLink RX0 96 "TraceLine" "cursor" "I", Cond.fieldLink RX0 66 "TraceLine" "weightInAll" "I", Cond.fieldLink RX0 29 "TraceLine" "frameInterval" "[I", Cond.fieldLink RX0 32 "TraceLine" "frameKind" "[I", Cond.fieldLink RX0 35 "TraceLine" "frameOpenBelow" "[I", Cond.fieldLink RX0 82 "TraceLine" "frames" "I", Cond.fieldLink RX0 38 "TraceLine" "open" "[I", Cond.fieldLink RX0 51 "TraceLine" "openOnes" "I", Cond.instanceMethod yX0_begin]
def wX_r1 : List Cond := [Cond.selects RX0 yX0_begin yX0_begin, Cond.code yX0_begin cX0_begin 3 (some .int), Cond.methodLink RX0 44 yX0_leastFreeNumber, Cond.instanceMethod yX0_leastFreeNumber, Cond.code yX0_leastFreeNumber cX0_leastFreeNumber 2 (some .int), Cond.methodLink RX0 48 yX0_lastKind, Cond.instanceMethod yX0_lastKind, Cond.code yX0_lastKind cX0_lastKind 1 (some .int), Cond.methodLink RX0 58 yX0_putAtCursor, Cond.instanceMethod yX0_putAtCursor, Cond.code yX0_putAtCursor cX0_putAtCursor 3 none, Cond.methodLink RX0 133 yX0_setPlace, Cond.instanceMethod yX0_setPlace, Cond.code yX0_setPlace cX0_setPlace 3 none, Cond.methodLink RX0 130 yX0_isStart, Cond.static yX0_isStart, Cond.code yX0_isStart cX0_isStart 1 (some .boolean), Cond.instanceMethod yX0_end, Cond.selects RX0 yX0_end yX0_end, Cond.code yX0_end cX0_end 2 (some .int), Cond.methodLink RX0 62 yX0_lastOpen, Cond.instanceMethod yX0_lastOpen, Cond.code yX0_lastOpen cX0_lastOpen 1 (some .int), Cond.instanceMethod yX0_weigh]
def wX_r2 : List Cond := [Cond.selects RX0 yX0_weigh yX0_weigh, Cond.code yX0_weigh cX0_weigh 3 (some .boolean), Cond.constant RX0 65 1000000000, Cond.methodLink RX0 69 yX0_lastInterval, Cond.instanceMethod yX0_lastInterval, Cond.code yX0_lastInterval cX0_lastInterval 1 (some .int), Cond.instanceMethod yX0_stale, Cond.selects RX0 yX0_stale yX0_stale, Cond.code yX0_stale cX0_stale 2 (some .boolean), Cond.methodLink RX0 72 yX0_isThere, Cond.instanceMethod yX0_isThere, Cond.code yX0_isThere cX0_isThere 2 (some .boolean), Cond.methodLink RX0 76 yX0_isEnded, Cond.instanceMethod yX0_isEnded, Cond.code yX0_isEnded cX0_isEnded 2 (some .boolean), Cond.instanceMethod yX0_resume, Cond.selects RX0 yX0_resume yX0_resume, Cond.code yX0_resume cX0_resume 2 (some .int), Cond.methodLink RX0 85 yX0_firstStaleAhead, Cond.instanceMethod yX0_firstStaleAhead, Cond.code yX0_firstStaleAhead cX0_firstStaleAhead 3 (some .int), Cond.methodLink RX0 127 yX0_aheadUpTo, Cond.instanceMethod yX0_aheadUpTo, Cond.code yX0_aheadUpTo cX0_aheadUpTo 2 (some .int)]
def wX_r3 : List Cond := [Cond.methodLink RX0 88 yX0_putFrame, Cond.instanceMethod yX0_putFrame, Cond.code yX0_putFrame cX0_putFrame 3 none, Cond.instanceMethod yX0_take, Cond.selects RX0 yX0_take yX0_take, Cond.code yX0_take cX0_take 3 (some .int), Cond.methodLink RX0 92 yX0_firstFreshAhead, Cond.instanceMethod yX0_firstFreshAhead, Cond.code yX0_firstFreshAhead cX0_firstFreshAhead 6 (some .int), Cond.methodLink RX0 99 yX0_erase, Cond.instanceMethod yX0_erase, Cond.code yX0_erase cX0_erase 5 none, Cond.methodLink RX0 136 yX0_forget, Cond.instanceMethod yX0_forget, Cond.code yX0_forget cX0_forget 2 none, Cond.instanceMethod yX0_done, Cond.selects RX0 yX0_done yX0_done, Cond.code yX0_done cX0_done 2 (some .int), Cond.instanceMethod yX0_toEnd, Cond.selects RX0 yX0_toEnd yX0_toEnd, Cond.code yX0_toEnd cX0_toEnd 1 (some .boolean), Cond.methodLink RX0 102 yX0_mayMove, Cond.instanceMethod yX0_mayMove, Cond.code yX0_mayMove cX0_mayMove 1 (some .boolean)]
def wX_r4 : List Cond := [Cond.instanceMethod yX0_toBegin, Cond.selects RX0 yX0_toBegin yX0_toBegin, Cond.code yX0_toBegin cX0_toBegin 1 (some .boolean), Cond.instanceMethod yX0_wipe, Cond.selects RX0 yX0_wipe yX0_wipe, Cond.code yX0_wipe cX0_wipe 1 none, Cond.instanceMethod yX0_event, Cond.selects RX0 yX0_event yX0_event, Cond.code yX0_event cX0_event 2 (some .int), Cond.instanceMethod yX0_look, Cond.selects RX0 yX0_look yX0_look, Cond.code yX0_look cX0_look 2 (some .int), Cond.instanceMethod yX0_of, Cond.selects RX0 yX0_of yX0_of, Cond.code yX0_of cX0_of 3 (some .int), Cond.methodLink RX0 116 yX0_stateOf, Cond.instanceMethod yX0_stateOf, Cond.code yX0_stateOf cX0_stateOf 2 (some .int), Cond.methodLink RX0 119 yX0_innermostAround, Cond.instanceMethod yX0_innermostAround, Cond.code yX0_innermostAround cX0_innermostAround 4 (some .int), Cond.methodLink RX0 122 yX0_weightWithin, Cond.instanceMethod yX0_weightWithin, Cond.code yX0_weightWithin cX0_weightWithin 5 (some .int)]
def wX_r5 : List Cond := [Cond.selects RX0 yX0_makeEmpty yX0_makeEmpty, Cond.selects RX0 yX0_leastFreeNumber yX0_leastFreeNumber, Cond.selects RX0 yX0_lastKind yX0_lastKind, Cond.selects RX0 yX0_putAtCursor yX0_putAtCursor, Cond.selects RX0 yX0_setPlace yX0_setPlace, Cond.selects RX0 yX0_lastOpen yX0_lastOpen, Cond.selects RX0 yX0_lastInterval yX0_lastInterval, Cond.selects RX0 yX0_isThere yX0_isThere, Cond.selects RX0 yX0_isEnded yX0_isEnded, Cond.selects RX0 yX0_firstStaleAhead yX0_firstStaleAhead, Cond.selects RX0 yX0_aheadUpTo yX0_aheadUpTo, Cond.selects RX0 yX0_putFrame yX0_putFrame, Cond.selects RX0 yX0_firstFreshAhead yX0_firstFreshAhead, Cond.selects RX0 yX0_erase yX0_erase, Cond.selects RX0 yX0_forget yX0_forget, Cond.selects RX0 yX0_mayMove yX0_mayMove, Cond.selects RX0 yX0_stateOf yX0_stateOf, Cond.selects RX0 yX0_innermostAround yX0_innermostAround, Cond.selects RX0 yX0_weightWithin yX0_weightWithin, Cond.initialized RX0, Cond.arrayClass .int, Cond.arrayClass .boolean, Cond.instanceMethod objectInit, Cond.code objectInit ⟨#[0xb1]⟩ 1 none]
def wsX_ : List Cond := wX_r0 ++ (wX_r1 ++ (wX_r2 ++ (wX_r3 ++ (wX_r4 ++ (wX_r5 ++ (wsX00))))))
theorem inwX_ : ∀ w ∈ wsX00, w ∈ wsX_ := fun w h => List.mem_append_right _ (List.mem_append_right _ (List.mem_append_right _ (List.mem_append_right _ (List.mem_append_right _ (List.mem_append_right _ (h))))))
theorem mX_im_init : Cond.instanceMethod yX0_init ∈ wsX_ := List.mem_append_left _ (List.mem_of_getElem? (i := 0) rfl)
theorem mX_co_init : Cond.code yX0_init cX0_init 1 none ∈ wsX_ := List.mem_append_left _ (List.mem_of_getElem? (i := 1) rfl)
theorem mX_ml_3 : Cond.methodLink RX0 3 objectInit ∈ wsX_ := List.mem_append_left _ (List.mem_of_getElem? (i := 2) rfl)
theorem mX_ml_41 : Cond.methodLink RX0 41 yX0_makeEmpty ∈ wsX_ := List.mem_append_left _ (List.mem_of_getElem? (i := 3) rfl)
theorem mX_im_makeEmpty : Cond.instanceMethod yX0_makeEmpty ∈ wsX_ := List.mem_append_left _ (List.mem_of_getElem? (i := 4) rfl)
theorem mX_co_makeEmpty : Cond.code yX0_makeEmpty cX0_makeEmpty 2 none ∈ wsX_ := List.mem_append_left _ (List.mem_of_getElem? (i := 5) rfl)
theorem mX_fl_9 : Cond.fieldLink RX0 9 "TraceLine" "keys" "[I" ∈ wsX_ := List.mem_append_left _ (List.mem_of_getElem? (i := 6) rfl)
theorem mX_fl_13 : Cond.fieldLink RX0 13 "TraceLine" "weights" "[I" ∈ wsX_ := List.mem_append_left _ (List.mem_of_getElem? (i := 7) rfl)
theorem mX_fl_16 : Cond.fieldLink RX0 16 "TraceLine" "startAt" "[I" ∈ wsX_ := List.mem_append_left _ (List.mem_of_getElem? (i := 8) rfl)
theorem mX_fl_19 : Cond.fieldLink RX0 19 "TraceLine" "endAt" "[I" ∈ wsX_ := List.mem_append_left _ (List.mem_of_getElem? (i := 9) rfl)
theorem mX_fl_22 : Cond.fieldLink RX0 22 "TraceLine" "staleMark" "[Z" ∈ wsX_ := List.mem_append_left _ (List.mem_of_getElem? (i := 10) rfl)
theorem mX_fl_55 : Cond.fieldLink RX0 55 "TraceLine" "intervals" "I" ∈ wsX_ := List.mem_append_left _ (List.mem_of_getElem? (i := 11) rfl)
theorem mX_fl_79 : Cond.fieldLink RX0 79 "TraceLine" "staleOnes" "I" ∈ wsX_ := List.mem_append_left _ (List.mem_of_getElem? (i := 12) rfl)
theorem mX_fl_26 : Cond.fieldLink RX0 26 "TraceLine" "line" "[I" ∈ wsX_ := List.mem_append_left _ (List.mem_of_getElem? (i := 13) rfl)
theorem mX_fl_106 : Cond.fieldLink RX0 106 "TraceLine" "events" "I" ∈ wsX_ := List.mem_append_left _ (List.mem_of_getElem? (i := 14) rfl)
theorem mX_fl_96 : Cond.fieldLink RX0 96 "TraceLine" "cursor" "I" ∈ wsX_ := List.mem_append_left _ (List.mem_of_getElem? (i := 15) rfl)
theorem mX_fl_66 : Cond.fieldLink RX0 66 "TraceLine" "weightInAll" "I" ∈ wsX_ := List.mem_append_left _ (List.mem_of_getElem? (i := 16) rfl)
theorem mX_fl_29 : Cond.fieldLink RX0 29 "TraceLine" "frameInterval" "[I" ∈ wsX_ := List.mem_append_left _ (List.mem_of_getElem? (i := 17) rfl)
theorem mX_fl_32 : Cond.fieldLink RX0 32 "TraceLine" "frameKind" "[I" ∈ wsX_ := List.mem_append_left _ (List.mem_of_getElem? (i := 18) rfl)
theorem mX_fl_35 : Cond.fieldLink RX0 35 "TraceLine" "frameOpenBelow" "[I" ∈ wsX_ := List.mem_append_left _ (List.mem_of_getElem? (i := 19) rfl)
theorem mX_fl_82 : Cond.fieldLink RX0 82 "TraceLine" "frames" "I" ∈ wsX_ := List.mem_append_left _ (List.mem_of_getElem? (i := 20) rfl)
theorem mX_fl_38 : Cond.fieldLink RX0 38 "TraceLine" "open" "[I" ∈ wsX_ := List.mem_append_left _ (List.mem_of_getElem? (i := 21) rfl)
theorem mX_fl_51 : Cond.fieldLink RX0 51 "TraceLine" "openOnes" "I" ∈ wsX_ := List.mem_append_left _ (List.mem_of_getElem? (i := 22) rfl)
theorem mX_im_begin : Cond.instanceMethod yX0_begin ∈ wsX_ := List.mem_append_left _ (List.mem_of_getElem? (i := 23) rfl)
theorem mX_se_begin : Cond.selects RX0 yX0_begin yX0_begin ∈ wsX_ := List.mem_append_right _ (List.mem_append_left _ (List.mem_of_getElem? (i := 0) rfl))
theorem mX_co_begin : Cond.code yX0_begin cX0_begin 3 (some .int) ∈ wsX_ := List.mem_append_right _ (List.mem_append_left _ (List.mem_of_getElem? (i := 1) rfl))
theorem mX_ml_44 : Cond.methodLink RX0 44 yX0_leastFreeNumber ∈ wsX_ := List.mem_append_right _ (List.mem_append_left _ (List.mem_of_getElem? (i := 2) rfl))
theorem mX_im_leastFreeNumber : Cond.instanceMethod yX0_leastFreeNumber ∈ wsX_ := List.mem_append_right _ (List.mem_append_left _ (List.mem_of_getElem? (i := 3) rfl))
theorem mX_co_leastFreeNumber : Cond.code yX0_leastFreeNumber cX0_leastFreeNumber 2 (some .int) ∈ wsX_ := List.mem_append_right _ (List.mem_append_left _ (List.mem_of_getElem? (i := 4) rfl))
theorem mX_ml_48 : Cond.methodLink RX0 48 yX0_lastKind ∈ wsX_ := List.mem_append_right _ (List.mem_append_left _ (List.mem_of_getElem? (i := 5) rfl))
theorem mX_im_lastKind : Cond.instanceMethod yX0_lastKind ∈ wsX_ := List.mem_append_right _ (List.mem_append_left _ (List.mem_of_getElem? (i := 6) rfl))
theorem mX_co_lastKind : Cond.code yX0_lastKind cX0_lastKind 1 (some .int) ∈ wsX_ := List.mem_append_right _ (List.mem_append_left _ (List.mem_of_getElem? (i := 7) rfl))
theorem mX_ml_58 : Cond.methodLink RX0 58 yX0_putAtCursor ∈ wsX_ := List.mem_append_right _ (List.mem_append_left _ (List.mem_of_getElem? (i := 8) rfl))
theorem mX_im_putAtCursor : Cond.instanceMethod yX0_putAtCursor ∈ wsX_ := List.mem_append_right _ (List.mem_append_left _ (List.mem_of_getElem? (i := 9) rfl))
theorem mX_co_putAtCursor : Cond.code yX0_putAtCursor cX0_putAtCursor 3 none ∈ wsX_ := List.mem_append_right _ (List.mem_append_left _ (List.mem_of_getElem? (i := 10) rfl))
theorem mX_ml_133 : Cond.methodLink RX0 133 yX0_setPlace ∈ wsX_ := List.mem_append_right _ (List.mem_append_left _ (List.mem_of_getElem? (i := 11) rfl))
theorem mX_im_setPlace : Cond.instanceMethod yX0_setPlace ∈ wsX_ := List.mem_append_right _ (List.mem_append_left _ (List.mem_of_getElem? (i := 12) rfl))
theorem mX_co_setPlace : Cond.code yX0_setPlace cX0_setPlace 3 none ∈ wsX_ := List.mem_append_right _ (List.mem_append_left _ (List.mem_of_getElem? (i := 13) rfl))
theorem mX_ml_130 : Cond.methodLink RX0 130 yX0_isStart ∈ wsX_ := List.mem_append_right _ (List.mem_append_left _ (List.mem_of_getElem? (i := 14) rfl))
theorem mX_st_isStart : Cond.static yX0_isStart ∈ wsX_ := List.mem_append_right _ (List.mem_append_left _ (List.mem_of_getElem? (i := 15) rfl))
theorem mX_co_isStart : Cond.code yX0_isStart cX0_isStart 1 (some .boolean) ∈ wsX_ := List.mem_append_right _ (List.mem_append_left _ (List.mem_of_getElem? (i := 16) rfl))
theorem mX_im_end : Cond.instanceMethod yX0_end ∈ wsX_ := List.mem_append_right _ (List.mem_append_left _ (List.mem_of_getElem? (i := 17) rfl))
theorem mX_se_end : Cond.selects RX0 yX0_end yX0_end ∈ wsX_ := List.mem_append_right _ (List.mem_append_left _ (List.mem_of_getElem? (i := 18) rfl))
theorem mX_co_end : Cond.code yX0_end cX0_end 2 (some .int) ∈ wsX_ := List.mem_append_right _ (List.mem_append_left _ (List.mem_of_getElem? (i := 19) rfl))
theorem mX_ml_62 : Cond.methodLink RX0 62 yX0_lastOpen ∈ wsX_ := List.mem_append_right _ (List.mem_append_left _ (List.mem_of_getElem? (i := 20) rfl))
theorem mX_im_lastOpen : Cond.instanceMethod yX0_lastOpen ∈ wsX_ := List.mem_append_right _ (List.mem_append_left _ (List.mem_of_getElem? (i := 21) rfl))
theorem mX_co_lastOpen : Cond.code yX0_lastOpen cX0_lastOpen 1 (some .int) ∈ wsX_ := List.mem_append_right _ (List.mem_append_left _ (List.mem_of_getElem? (i := 22) rfl))
theorem mX_im_weigh : Cond.instanceMethod yX0_weigh ∈ wsX_ := List.mem_append_right _ (List.mem_append_left _ (List.mem_of_getElem? (i := 23) rfl))
theorem mX_se_weigh : Cond.selects RX0 yX0_weigh yX0_weigh ∈ wsX_ := List.mem_append_right _ (List.mem_append_right _ (List.mem_append_left _ (List.mem_of_getElem? (i := 0) rfl)))
theorem mX_co_weigh : Cond.code yX0_weigh cX0_weigh 3 (some .boolean) ∈ wsX_ := List.mem_append_right _ (List.mem_append_right _ (List.mem_append_left _ (List.mem_of_getElem? (i := 1) rfl)))
theorem mX_cn_65 : Cond.constant RX0 65 1000000000 ∈ wsX_ := List.mem_append_right _ (List.mem_append_right _ (List.mem_append_left _ (List.mem_of_getElem? (i := 2) rfl)))
theorem mX_ml_69 : Cond.methodLink RX0 69 yX0_lastInterval ∈ wsX_ := List.mem_append_right _ (List.mem_append_right _ (List.mem_append_left _ (List.mem_of_getElem? (i := 3) rfl)))
theorem mX_im_lastInterval : Cond.instanceMethod yX0_lastInterval ∈ wsX_ := List.mem_append_right _ (List.mem_append_right _ (List.mem_append_left _ (List.mem_of_getElem? (i := 4) rfl)))
theorem mX_co_lastInterval : Cond.code yX0_lastInterval cX0_lastInterval 1 (some .int) ∈ wsX_ := List.mem_append_right _ (List.mem_append_right _ (List.mem_append_left _ (List.mem_of_getElem? (i := 5) rfl)))
theorem mX_im_stale : Cond.instanceMethod yX0_stale ∈ wsX_ := List.mem_append_right _ (List.mem_append_right _ (List.mem_append_left _ (List.mem_of_getElem? (i := 6) rfl)))
theorem mX_se_stale : Cond.selects RX0 yX0_stale yX0_stale ∈ wsX_ := List.mem_append_right _ (List.mem_append_right _ (List.mem_append_left _ (List.mem_of_getElem? (i := 7) rfl)))
theorem mX_co_stale : Cond.code yX0_stale cX0_stale 2 (some .boolean) ∈ wsX_ := List.mem_append_right _ (List.mem_append_right _ (List.mem_append_left _ (List.mem_of_getElem? (i := 8) rfl)))
theorem mX_ml_72 : Cond.methodLink RX0 72 yX0_isThere ∈ wsX_ := List.mem_append_right _ (List.mem_append_right _ (List.mem_append_left _ (List.mem_of_getElem? (i := 9) rfl)))
theorem mX_im_isThere : Cond.instanceMethod yX0_isThere ∈ wsX_ := List.mem_append_right _ (List.mem_append_right _ (List.mem_append_left _ (List.mem_of_getElem? (i := 10) rfl)))
theorem mX_co_isThere : Cond.code yX0_isThere cX0_isThere 2 (some .boolean) ∈ wsX_ := List.mem_append_right _ (List.mem_append_right _ (List.mem_append_left _ (List.mem_of_getElem? (i := 11) rfl)))
theorem mX_ml_76 : Cond.methodLink RX0 76 yX0_isEnded ∈ wsX_ := List.mem_append_right _ (List.mem_append_right _ (List.mem_append_left _ (List.mem_of_getElem? (i := 12) rfl)))
theorem mX_im_isEnded : Cond.instanceMethod yX0_isEnded ∈ wsX_ := List.mem_append_right _ (List.mem_append_right _ (List.mem_append_left _ (List.mem_of_getElem? (i := 13) rfl)))
theorem mX_co_isEnded : Cond.code yX0_isEnded cX0_isEnded 2 (some .boolean) ∈ wsX_ := List.mem_append_right _ (List.mem_append_right _ (List.mem_append_left _ (List.mem_of_getElem? (i := 14) rfl)))
theorem mX_im_resume : Cond.instanceMethod yX0_resume ∈ wsX_ := List.mem_append_right _ (List.mem_append_right _ (List.mem_append_left _ (List.mem_of_getElem? (i := 15) rfl)))
theorem mX_se_resume : Cond.selects RX0 yX0_resume yX0_resume ∈ wsX_ := List.mem_append_right _ (List.mem_append_right _ (List.mem_append_left _ (List.mem_of_getElem? (i := 16) rfl)))
theorem mX_co_resume : Cond.code yX0_resume cX0_resume 2 (some .int) ∈ wsX_ := List.mem_append_right _ (List.mem_append_right _ (List.mem_append_left _ (List.mem_of_getElem? (i := 17) rfl)))
theorem mX_ml_85 : Cond.methodLink RX0 85 yX0_firstStaleAhead ∈ wsX_ := List.mem_append_right _ (List.mem_append_right _ (List.mem_append_left _ (List.mem_of_getElem? (i := 18) rfl)))
theorem mX_im_firstStaleAhead : Cond.instanceMethod yX0_firstStaleAhead ∈ wsX_ := List.mem_append_right _ (List.mem_append_right _ (List.mem_append_left _ (List.mem_of_getElem? (i := 19) rfl)))
theorem mX_co_firstStaleAhead : Cond.code yX0_firstStaleAhead cX0_firstStaleAhead 3 (some .int) ∈ wsX_ := List.mem_append_right _ (List.mem_append_right _ (List.mem_append_left _ (List.mem_of_getElem? (i := 20) rfl)))
theorem mX_ml_127 : Cond.methodLink RX0 127 yX0_aheadUpTo ∈ wsX_ := List.mem_append_right _ (List.mem_append_right _ (List.mem_append_left _ (List.mem_of_getElem? (i := 21) rfl)))
theorem mX_im_aheadUpTo : Cond.instanceMethod yX0_aheadUpTo ∈ wsX_ := List.mem_append_right _ (List.mem_append_right _ (List.mem_append_left _ (List.mem_of_getElem? (i := 22) rfl)))
theorem mX_co_aheadUpTo : Cond.code yX0_aheadUpTo cX0_aheadUpTo 2 (some .int) ∈ wsX_ := List.mem_append_right _ (List.mem_append_right _ (List.mem_append_left _ (List.mem_of_getElem? (i := 23) rfl)))
theorem mX_ml_88 : Cond.methodLink RX0 88 yX0_putFrame ∈ wsX_ := List.mem_append_right _ (List.mem_append_right _ (List.mem_append_right _ (List.mem_append_left _ (List.mem_of_getElem? (i := 0) rfl))))
theorem mX_im_putFrame : Cond.instanceMethod yX0_putFrame ∈ wsX_ := List.mem_append_right _ (List.mem_append_right _ (List.mem_append_right _ (List.mem_append_left _ (List.mem_of_getElem? (i := 1) rfl))))
theorem mX_co_putFrame : Cond.code yX0_putFrame cX0_putFrame 3 none ∈ wsX_ := List.mem_append_right _ (List.mem_append_right _ (List.mem_append_right _ (List.mem_append_left _ (List.mem_of_getElem? (i := 2) rfl))))
theorem mX_im_take : Cond.instanceMethod yX0_take ∈ wsX_ := List.mem_append_right _ (List.mem_append_right _ (List.mem_append_right _ (List.mem_append_left _ (List.mem_of_getElem? (i := 3) rfl))))
theorem mX_se_take : Cond.selects RX0 yX0_take yX0_take ∈ wsX_ := List.mem_append_right _ (List.mem_append_right _ (List.mem_append_right _ (List.mem_append_left _ (List.mem_of_getElem? (i := 4) rfl))))
theorem mX_co_take : Cond.code yX0_take cX0_take 3 (some .int) ∈ wsX_ := List.mem_append_right _ (List.mem_append_right _ (List.mem_append_right _ (List.mem_append_left _ (List.mem_of_getElem? (i := 5) rfl))))
theorem mX_ml_92 : Cond.methodLink RX0 92 yX0_firstFreshAhead ∈ wsX_ := List.mem_append_right _ (List.mem_append_right _ (List.mem_append_right _ (List.mem_append_left _ (List.mem_of_getElem? (i := 6) rfl))))
theorem mX_im_firstFreshAhead : Cond.instanceMethod yX0_firstFreshAhead ∈ wsX_ := List.mem_append_right _ (List.mem_append_right _ (List.mem_append_right _ (List.mem_append_left _ (List.mem_of_getElem? (i := 7) rfl))))
theorem mX_co_firstFreshAhead : Cond.code yX0_firstFreshAhead cX0_firstFreshAhead 6 (some .int) ∈ wsX_ := List.mem_append_right _ (List.mem_append_right _ (List.mem_append_right _ (List.mem_append_left _ (List.mem_of_getElem? (i := 8) rfl))))
theorem mX_ml_99 : Cond.methodLink RX0 99 yX0_erase ∈ wsX_ := List.mem_append_right _ (List.mem_append_right _ (List.mem_append_right _ (List.mem_append_left _ (List.mem_of_getElem? (i := 9) rfl))))
theorem mX_im_erase : Cond.instanceMethod yX0_erase ∈ wsX_ := List.mem_append_right _ (List.mem_append_right _ (List.mem_append_right _ (List.mem_append_left _ (List.mem_of_getElem? (i := 10) rfl))))
theorem mX_co_erase : Cond.code yX0_erase cX0_erase 5 none ∈ wsX_ := List.mem_append_right _ (List.mem_append_right _ (List.mem_append_right _ (List.mem_append_left _ (List.mem_of_getElem? (i := 11) rfl))))
theorem mX_ml_136 : Cond.methodLink RX0 136 yX0_forget ∈ wsX_ := List.mem_append_right _ (List.mem_append_right _ (List.mem_append_right _ (List.mem_append_left _ (List.mem_of_getElem? (i := 12) rfl))))
theorem mX_im_forget : Cond.instanceMethod yX0_forget ∈ wsX_ := List.mem_append_right _ (List.mem_append_right _ (List.mem_append_right _ (List.mem_append_left _ (List.mem_of_getElem? (i := 13) rfl))))
theorem mX_co_forget : Cond.code yX0_forget cX0_forget 2 none ∈ wsX_ := List.mem_append_right _ (List.mem_append_right _ (List.mem_append_right _ (List.mem_append_left _ (List.mem_of_getElem? (i := 14) rfl))))
theorem mX_im_done : Cond.instanceMethod yX0_done ∈ wsX_ := List.mem_append_right _ (List.mem_append_right _ (List.mem_append_right _ (List.mem_append_left _ (List.mem_of_getElem? (i := 15) rfl))))
theorem mX_se_done : Cond.selects RX0 yX0_done yX0_done ∈ wsX_ := List.mem_append_right _ (List.mem_append_right _ (List.mem_append_right _ (List.mem_append_left _ (List.mem_of_getElem? (i := 16) rfl))))
theorem mX_co_done : Cond.code yX0_done cX0_done 2 (some .int) ∈ wsX_ := List.mem_append_right _ (List.mem_append_right _ (List.mem_append_right _ (List.mem_append_left _ (List.mem_of_getElem? (i := 17) rfl))))
theorem mX_im_toEnd : Cond.instanceMethod yX0_toEnd ∈ wsX_ := List.mem_append_right _ (List.mem_append_right _ (List.mem_append_right _ (List.mem_append_left _ (List.mem_of_getElem? (i := 18) rfl))))
theorem mX_se_toEnd : Cond.selects RX0 yX0_toEnd yX0_toEnd ∈ wsX_ := List.mem_append_right _ (List.mem_append_right _ (List.mem_append_right _ (List.mem_append_left _ (List.mem_of_getElem? (i := 19) rfl))))
theorem mX_co_toEnd : Cond.code yX0_toEnd cX0_toEnd 1 (some .boolean) ∈ wsX_ := List.mem_append_right _ (List.mem_append_right _ (List.mem_append_right _ (List.mem_append_left _ (List.mem_of_getElem? (i := 20) rfl))))
theorem mX_ml_102 : Cond.methodLink RX0 102 yX0_mayMove ∈ wsX_ := List.mem_append_right _ (List.mem_append_right _ (List.mem_append_right _ (List.mem_append_left _ (List.mem_of_getElem? (i := 21) rfl))))
theorem mX_im_mayMove : Cond.instanceMethod yX0_mayMove ∈ wsX_ := List.mem_append_right _ (List.mem_append_right _ (List.mem_append_right _ (List.mem_append_left _ (List.mem_of_getElem? (i := 22) rfl))))
theorem mX_co_mayMove : Cond.code yX0_mayMove cX0_mayMove 1 (some .boolean) ∈ wsX_ := List.mem_append_right _ (List.mem_append_right _ (List.mem_append_right _ (List.mem_append_left _ (List.mem_of_getElem? (i := 23) rfl))))
theorem mX_im_toBegin : Cond.instanceMethod yX0_toBegin ∈ wsX_ := List.mem_append_right _ (List.mem_append_right _ (List.mem_append_right _ (List.mem_append_right _ (List.mem_append_left _ (List.mem_of_getElem? (i := 0) rfl)))))
theorem mX_se_toBegin : Cond.selects RX0 yX0_toBegin yX0_toBegin ∈ wsX_ := List.mem_append_right _ (List.mem_append_right _ (List.mem_append_right _ (List.mem_append_right _ (List.mem_append_left _ (List.mem_of_getElem? (i := 1) rfl)))))
theorem mX_co_toBegin : Cond.code yX0_toBegin cX0_toBegin 1 (some .boolean) ∈ wsX_ := List.mem_append_right _ (List.mem_append_right _ (List.mem_append_right _ (List.mem_append_right _ (List.mem_append_left _ (List.mem_of_getElem? (i := 2) rfl)))))
theorem mX_im_wipe : Cond.instanceMethod yX0_wipe ∈ wsX_ := List.mem_append_right _ (List.mem_append_right _ (List.mem_append_right _ (List.mem_append_right _ (List.mem_append_left _ (List.mem_of_getElem? (i := 3) rfl)))))
theorem mX_se_wipe : Cond.selects RX0 yX0_wipe yX0_wipe ∈ wsX_ := List.mem_append_right _ (List.mem_append_right _ (List.mem_append_right _ (List.mem_append_right _ (List.mem_append_left _ (List.mem_of_getElem? (i := 4) rfl)))))
theorem mX_co_wipe : Cond.code yX0_wipe cX0_wipe 1 none ∈ wsX_ := List.mem_append_right _ (List.mem_append_right _ (List.mem_append_right _ (List.mem_append_right _ (List.mem_append_left _ (List.mem_of_getElem? (i := 5) rfl)))))
theorem mX_im_event : Cond.instanceMethod yX0_event ∈ wsX_ := List.mem_append_right _ (List.mem_append_right _ (List.mem_append_right _ (List.mem_append_right _ (List.mem_append_left _ (List.mem_of_getElem? (i := 6) rfl)))))
theorem mX_se_event : Cond.selects RX0 yX0_event yX0_event ∈ wsX_ := List.mem_append_right _ (List.mem_append_right _ (List.mem_append_right _ (List.mem_append_right _ (List.mem_append_left _ (List.mem_of_getElem? (i := 7) rfl)))))
theorem mX_co_event : Cond.code yX0_event cX0_event 2 (some .int) ∈ wsX_ := List.mem_append_right _ (List.mem_append_right _ (List.mem_append_right _ (List.mem_append_right _ (List.mem_append_left _ (List.mem_of_getElem? (i := 8) rfl)))))
theorem mX_im_look : Cond.instanceMethod yX0_look ∈ wsX_ := List.mem_append_right _ (List.mem_append_right _ (List.mem_append_right _ (List.mem_append_right _ (List.mem_append_left _ (List.mem_of_getElem? (i := 9) rfl)))))
theorem mX_se_look : Cond.selects RX0 yX0_look yX0_look ∈ wsX_ := List.mem_append_right _ (List.mem_append_right _ (List.mem_append_right _ (List.mem_append_right _ (List.mem_append_left _ (List.mem_of_getElem? (i := 10) rfl)))))
theorem mX_co_look : Cond.code yX0_look cX0_look 2 (some .int) ∈ wsX_ := List.mem_append_right _ (List.mem_append_right _ (List.mem_append_right _ (List.mem_append_right _ (List.mem_append_left _ (List.mem_of_getElem? (i := 11) rfl)))))
theorem mX_im_of : Cond.instanceMethod yX0_of ∈ wsX_ := List.mem_append_right _ (List.mem_append_right _ (List.mem_append_right _ (List.mem_append_right _ (List.mem_append_left _ (List.mem_of_getElem? (i := 12) rfl)))))
theorem mX_se_of : Cond.selects RX0 yX0_of yX0_of ∈ wsX_ := List.mem_append_right _ (List.mem_append_right _ (List.mem_append_right _ (List.mem_append_right _ (List.mem_append_left _ (List.mem_of_getElem? (i := 13) rfl)))))
theorem mX_co_of : Cond.code yX0_of cX0_of 3 (some .int) ∈ wsX_ := List.mem_append_right _ (List.mem_append_right _ (List.mem_append_right _ (List.mem_append_right _ (List.mem_append_left _ (List.mem_of_getElem? (i := 14) rfl)))))
theorem mX_ml_116 : Cond.methodLink RX0 116 yX0_stateOf ∈ wsX_ := List.mem_append_right _ (List.mem_append_right _ (List.mem_append_right _ (List.mem_append_right _ (List.mem_append_left _ (List.mem_of_getElem? (i := 15) rfl)))))
theorem mX_im_stateOf : Cond.instanceMethod yX0_stateOf ∈ wsX_ := List.mem_append_right _ (List.mem_append_right _ (List.mem_append_right _ (List.mem_append_right _ (List.mem_append_left _ (List.mem_of_getElem? (i := 16) rfl)))))
theorem mX_co_stateOf : Cond.code yX0_stateOf cX0_stateOf 2 (some .int) ∈ wsX_ := List.mem_append_right _ (List.mem_append_right _ (List.mem_append_right _ (List.mem_append_right _ (List.mem_append_left _ (List.mem_of_getElem? (i := 17) rfl)))))
theorem mX_ml_119 : Cond.methodLink RX0 119 yX0_innermostAround ∈ wsX_ := List.mem_append_right _ (List.mem_append_right _ (List.mem_append_right _ (List.mem_append_right _ (List.mem_append_left _ (List.mem_of_getElem? (i := 18) rfl)))))
theorem mX_im_innermostAround : Cond.instanceMethod yX0_innermostAround ∈ wsX_ := List.mem_append_right _ (List.mem_append_right _ (List.mem_append_right _ (List.mem_append_right _ (List.mem_append_left _ (List.mem_of_getElem? (i := 19) rfl)))))
theorem mX_co_innermostAround : Cond.code yX0_innermostAround cX0_innermostAround 4 (some .int) ∈ wsX_ := List.mem_append_right _ (List.mem_append_right _ (List.mem_append_right _ (List.mem_append_right _ (List.mem_append_left _ (List.mem_of_getElem? (i := 20) rfl)))))
theorem mX_ml_122 : Cond.methodLink RX0 122 yX0_weightWithin ∈ wsX_ := List.mem_append_right _ (List.mem_append_right _ (List.mem_append_right _ (List.mem_append_right _ (List.mem_append_left _ (List.mem_of_getElem? (i := 21) rfl)))))
theorem mX_im_weightWithin : Cond.instanceMethod yX0_weightWithin ∈ wsX_ := List.mem_append_right _ (List.mem_append_right _ (List.mem_append_right _ (List.mem_append_right _ (List.mem_append_left _ (List.mem_of_getElem? (i := 22) rfl)))))
theorem mX_co_weightWithin : Cond.code yX0_weightWithin cX0_weightWithin 5 (some .int) ∈ wsX_ := List.mem_append_right _ (List.mem_append_right _ (List.mem_append_right _ (List.mem_append_right _ (List.mem_append_left _ (List.mem_of_getElem? (i := 23) rfl)))))
theorem mX_se_makeEmpty : Cond.selects RX0 yX0_makeEmpty yX0_makeEmpty ∈ wsX_ := List.mem_append_right _ (List.mem_append_right _ (List.mem_append_right _ (List.mem_append_right _ (List.mem_append_right _ (List.mem_append_left _ (List.mem_of_getElem? (i := 0) rfl))))))
theorem mX_se_leastFreeNumber : Cond.selects RX0 yX0_leastFreeNumber yX0_leastFreeNumber ∈ wsX_ := List.mem_append_right _ (List.mem_append_right _ (List.mem_append_right _ (List.mem_append_right _ (List.mem_append_right _ (List.mem_append_left _ (List.mem_of_getElem? (i := 1) rfl))))))
theorem mX_se_lastKind : Cond.selects RX0 yX0_lastKind yX0_lastKind ∈ wsX_ := List.mem_append_right _ (List.mem_append_right _ (List.mem_append_right _ (List.mem_append_right _ (List.mem_append_right _ (List.mem_append_left _ (List.mem_of_getElem? (i := 2) rfl))))))
theorem mX_se_putAtCursor : Cond.selects RX0 yX0_putAtCursor yX0_putAtCursor ∈ wsX_ := List.mem_append_right _ (List.mem_append_right _ (List.mem_append_right _ (List.mem_append_right _ (List.mem_append_right _ (List.mem_append_left _ (List.mem_of_getElem? (i := 3) rfl))))))
theorem mX_se_setPlace : Cond.selects RX0 yX0_setPlace yX0_setPlace ∈ wsX_ := List.mem_append_right _ (List.mem_append_right _ (List.mem_append_right _ (List.mem_append_right _ (List.mem_append_right _ (List.mem_append_left _ (List.mem_of_getElem? (i := 4) rfl))))))
theorem mX_se_lastOpen : Cond.selects RX0 yX0_lastOpen yX0_lastOpen ∈ wsX_ := List.mem_append_right _ (List.mem_append_right _ (List.mem_append_right _ (List.mem_append_right _ (List.mem_append_right _ (List.mem_append_left _ (List.mem_of_getElem? (i := 5) rfl))))))
theorem mX_se_lastInterval : Cond.selects RX0 yX0_lastInterval yX0_lastInterval ∈ wsX_ := List.mem_append_right _ (List.mem_append_right _ (List.mem_append_right _ (List.mem_append_right _ (List.mem_append_right _ (List.mem_append_left _ (List.mem_of_getElem? (i := 6) rfl))))))
theorem mX_se_isThere : Cond.selects RX0 yX0_isThere yX0_isThere ∈ wsX_ := List.mem_append_right _ (List.mem_append_right _ (List.mem_append_right _ (List.mem_append_right _ (List.mem_append_right _ (List.mem_append_left _ (List.mem_of_getElem? (i := 7) rfl))))))
theorem mX_se_isEnded : Cond.selects RX0 yX0_isEnded yX0_isEnded ∈ wsX_ := List.mem_append_right _ (List.mem_append_right _ (List.mem_append_right _ (List.mem_append_right _ (List.mem_append_right _ (List.mem_append_left _ (List.mem_of_getElem? (i := 8) rfl))))))
theorem mX_se_firstStaleAhead : Cond.selects RX0 yX0_firstStaleAhead yX0_firstStaleAhead ∈ wsX_ := List.mem_append_right _ (List.mem_append_right _ (List.mem_append_right _ (List.mem_append_right _ (List.mem_append_right _ (List.mem_append_left _ (List.mem_of_getElem? (i := 9) rfl))))))
theorem mX_se_aheadUpTo : Cond.selects RX0 yX0_aheadUpTo yX0_aheadUpTo ∈ wsX_ := List.mem_append_right _ (List.mem_append_right _ (List.mem_append_right _ (List.mem_append_right _ (List.mem_append_right _ (List.mem_append_left _ (List.mem_of_getElem? (i := 10) rfl))))))
theorem mX_se_putFrame : Cond.selects RX0 yX0_putFrame yX0_putFrame ∈ wsX_ := List.mem_append_right _ (List.mem_append_right _ (List.mem_append_right _ (List.mem_append_right _ (List.mem_append_right _ (List.mem_append_left _ (List.mem_of_getElem? (i := 11) rfl))))))
theorem mX_se_firstFreshAhead : Cond.selects RX0 yX0_firstFreshAhead yX0_firstFreshAhead ∈ wsX_ := List.mem_append_right _ (List.mem_append_right _ (List.mem_append_right _ (List.mem_append_right _ (List.mem_append_right _ (List.mem_append_left _ (List.mem_of_getElem? (i := 12) rfl))))))
theorem mX_se_erase : Cond.selects RX0 yX0_erase yX0_erase ∈ wsX_ := List.mem_append_right _ (List.mem_append_right _ (List.mem_append_right _ (List.mem_append_right _ (List.mem_append_right _ (List.mem_append_left _ (List.mem_of_getElem? (i := 13) rfl))))))
theorem mX_se_forget : Cond.selects RX0 yX0_forget yX0_forget ∈ wsX_ := List.mem_append_right _ (List.mem_append_right _ (List.mem_append_right _ (List.mem_append_right _ (List.mem_append_right _ (List.mem_append_left _ (List.mem_of_getElem? (i := 14) rfl))))))
theorem mX_se_mayMove : Cond.selects RX0 yX0_mayMove yX0_mayMove ∈ wsX_ := List.mem_append_right _ (List.mem_append_right _ (List.mem_append_right _ (List.mem_append_right _ (List.mem_append_right _ (List.mem_append_left _ (List.mem_of_getElem? (i := 15) rfl))))))
theorem mX_se_stateOf : Cond.selects RX0 yX0_stateOf yX0_stateOf ∈ wsX_ := List.mem_append_right _ (List.mem_append_right _ (List.mem_append_right _ (List.mem_append_right _ (List.mem_append_right _ (List.mem_append_left _ (List.mem_of_getElem? (i := 16) rfl))))))
theorem mX_se_innermostAround : Cond.selects RX0 yX0_innermostAround yX0_innermostAround ∈ wsX_ := List.mem_append_right _ (List.mem_append_right _ (List.mem_append_right _ (List.mem_append_right _ (List.mem_append_right _ (List.mem_append_left _ (List.mem_of_getElem? (i := 17) rfl))))))
theorem mX_se_weightWithin : Cond.selects RX0 yX0_weightWithin yX0_weightWithin ∈ wsX_ := List.mem_append_right _ (List.mem_append_right _ (List.mem_append_right _ (List.mem_append_right _ (List.mem_append_right _ (List.mem_append_left _ (List.mem_of_getElem? (i := 18) rfl))))))
theorem mX_in_ : Cond.initialized RX0 ∈ wsX_ := List.mem_append_right _ (List.mem_append_right _ (List.mem_append_right _ (List.mem_append_right _ (List.mem_append_right _ (List.mem_append_left _ (List.mem_of_getElem? (i := 19) rfl))))))
theorem mX_ac_i : Cond.arrayClass .int ∈ wsX_ := List.mem_append_right _ (List.mem_append_right _ (List.mem_append_right _ (List.mem_append_right _ (List.mem_append_right _ (List.mem_append_left _ (List.mem_of_getElem? (i := 20) rfl))))))
theorem mX_ac_z : Cond.arrayClass .boolean ∈ wsX_ := List.mem_append_right _ (List.mem_append_right _ (List.mem_append_right _ (List.mem_append_right _ (List.mem_append_right _ (List.mem_append_left _ (List.mem_of_getElem? (i := 21) rfl))))))
theorem mX_oi : Cond.instanceMethod objectInit ∈ wsX_ := List.mem_append_right _ (List.mem_append_right _ (List.mem_append_right _ (List.mem_append_right _ (List.mem_append_right _ (List.mem_append_left _ (List.mem_of_getElem? (i := 22) rfl))))))
theorem mX_oc : Cond.code objectInit ⟨#[0xb1]⟩ 1 none ∈ wsX_ := List.mem_append_right _ (List.mem_append_right _ (List.mem_append_right _ (List.mem_append_right _ (List.mem_append_right _ (List.mem_append_left _ (List.mem_of_getElem? (i := 23) rfl))))))
theorem gX_all : GoodIn wsX_ wsX_ := goodIn_sub (fun _ h => h) (by decide +kernel)
def wsX0_init : List Cond := .code yX0_init cX0_init 1 none :: wsX_
def wsX0_makeEmpty : List Cond := .code yX0_makeEmpty cX0_makeEmpty 2 none :: wsX_
theorem qX_makeEmpty : GoodIn wsX_ (wsV RX0 41 RX0 yX0_makeEmpty wsX0_makeEmpty) := gi_V gX_all mX_ml_41 mX_im_makeEmpty mX_se_makeEmpty mX_in_ mX_co_makeEmpty
def wsX0_begin : List Cond := .code yX0_begin cX0_begin 3 (some .int) :: wsX_
def wsX0_leastFreeNumber : List Cond := .code yX0_leastFreeNumber cX0_leastFreeNumber 2 (some .int) :: wsX_
theorem qX_leastFreeNumber : GoodIn wsX_ (wsV RX0 44 RX0 yX0_leastFreeNumber wsX0_leastFreeNumber) := gi_V gX_all mX_ml_44 mX_im_leastFreeNumber mX_se_leastFreeNumber mX_in_ mX_co_leastFreeNumber
def wsX0_lastKind : List Cond := .code yX0_lastKind cX0_lastKind 1 (some .int) :: wsX_
theorem qX_lastKind : GoodIn wsX_ (wsV RX0 48 RX0 yX0_lastKind wsX0_lastKind) := gi_V gX_all mX_ml_48 mX_im_lastKind mX_se_lastKind mX_in_ mX_co_lastKind
def wsX0_putAtCursor : List Cond := .code yX0_putAtCursor cX0_putAtCursor 3 none :: wsX_
theorem qX_putAtCursor : GoodIn wsX_ (wsV RX0 58 RX0 yX0_putAtCursor wsX0_putAtCursor) := gi_V gX_all mX_ml_58 mX_im_putAtCursor mX_se_putAtCursor mX_in_ mX_co_putAtCursor
def wsX0_setPlace : List Cond := .code yX0_setPlace cX0_setPlace 3 none :: wsX_
theorem qX_setPlace : GoodIn wsX_ (wsV RX0 133 RX0 yX0_setPlace wsX0_setPlace) := gi_V gX_all mX_ml_133 mX_im_setPlace mX_se_setPlace mX_in_ mX_co_setPlace
def wsX0_isStart : List Cond := .code yX0_isStart cX0_isStart 1 (some .boolean) :: wsX_
theorem qX_isStart : GoodIn wsX_ (wsS RX0 130 yX0_isStart wsX0_isStart) := gi_S gX_all mX_ml_130 mX_st_isStart mX_in_ mX_co_isStart
def wsX0_end : List Cond := .code yX0_end cX0_end 2 (some .int) :: wsX_
def wsX0_lastOpen : List Cond := .code yX0_lastOpen cX0_lastOpen 1 (some .int) :: wsX_
theorem qX_lastOpen : GoodIn wsX_ (wsV RX0 62 RX0 yX0_lastOpen wsX0_lastOpen) := gi_V gX_all mX_ml_62 mX_im_lastOpen mX_se_lastOpen mX_in_ mX_co_lastOpen
def wsX0_weigh : List Cond := .code yX0_weigh cX0_weigh 3 (some .boolean) :: wsX_
def wsX0_lastInterval : List Cond := .code yX0_lastInterval cX0_lastInterval 1 (some .int) :: wsX_
theorem qX_lastInterval : GoodIn wsX_ (wsV RX0 69 RX0 yX0_lastInterval wsX0_lastInterval) := gi_V gX_all mX_ml_69 mX_im_lastInterval mX_se_lastInterval mX_in_ mX_co_lastInterval
def wsX0_stale : List Cond := .code yX0_stale cX0_stale 2 (some .boolean) :: wsX_
def wsX0_isThere : List Cond := .code yX0_isThere cX0_isThere 2 (some .boolean) :: wsX_
theorem qX_isThere : GoodIn wsX_ (wsV RX0 72 RX0 yX0_isThere wsX0_isThere) := gi_V gX_all mX_ml_72 mX_im_isThere mX_se_isThere mX_in_ mX_co_isThere
def wsX0_isEnded : List Cond := .code yX0_isEnded cX0_isEnded 2 (some .boolean) :: wsX_
theorem qX_isEnded : GoodIn wsX_ (wsV RX0 76 RX0 yX0_isEnded wsX0_isEnded) := gi_V gX_all mX_ml_76 mX_im_isEnded mX_se_isEnded mX_in_ mX_co_isEnded
def wsX0_resume : List Cond := .code yX0_resume cX0_resume 2 (some .int) :: wsX_
def wsX0_firstStaleAhead : List Cond := .code yX0_firstStaleAhead cX0_firstStaleAhead 3 (some .int) :: wsX_
theorem qX_firstStaleAhead : GoodIn wsX_ (wsV RX0 85 RX0 yX0_firstStaleAhead wsX0_firstStaleAhead) := gi_V gX_all mX_ml_85 mX_im_firstStaleAhead mX_se_firstStaleAhead mX_in_ mX_co_firstStaleAhead
def wsX0_aheadUpTo : List Cond := .code yX0_aheadUpTo cX0_aheadUpTo 2 (some .int) :: wsX_
theorem qX_aheadUpTo : GoodIn wsX_ (wsV RX0 127 RX0 yX0_aheadUpTo wsX0_aheadUpTo) := gi_V gX_all mX_ml_127 mX_im_aheadUpTo mX_se_aheadUpTo mX_in_ mX_co_aheadUpTo
def wsX0_putFrame : List Cond := .code yX0_putFrame cX0_putFrame 3 none :: wsX_
theorem qX_putFrame : GoodIn wsX_ (wsV RX0 88 RX0 yX0_putFrame wsX0_putFrame) := gi_V gX_all mX_ml_88 mX_im_putFrame mX_se_putFrame mX_in_ mX_co_putFrame
def wsX0_take : List Cond := .code yX0_take cX0_take 3 (some .int) :: wsX_
def wsX0_firstFreshAhead : List Cond := .code yX0_firstFreshAhead cX0_firstFreshAhead 6 (some .int) :: wsX_
theorem qX_firstFreshAhead : GoodIn wsX_ (wsV RX0 92 RX0 yX0_firstFreshAhead wsX0_firstFreshAhead) := gi_V gX_all mX_ml_92 mX_im_firstFreshAhead mX_se_firstFreshAhead mX_in_ mX_co_firstFreshAhead
def wsX0_erase : List Cond := .code yX0_erase cX0_erase 5 none :: wsX_
theorem qX_erase : GoodIn wsX_ (wsV RX0 99 RX0 yX0_erase wsX0_erase) := gi_V gX_all mX_ml_99 mX_im_erase mX_se_erase mX_in_ mX_co_erase
def wsX0_forget : List Cond := .code yX0_forget cX0_forget 2 none :: wsX_
theorem qX_forget : GoodIn wsX_ (wsV RX0 136 RX0 yX0_forget wsX0_forget) := gi_V gX_all mX_ml_136 mX_im_forget mX_se_forget mX_in_ mX_co_forget
def wsX0_done : List Cond := .code yX0_done cX0_done 2 (some .int) :: wsX_
def wsX0_toEnd : List Cond := .code yX0_toEnd cX0_toEnd 1 (some .boolean) :: wsX_
def wsX0_mayMove : List Cond := .code yX0_mayMove cX0_mayMove 1 (some .boolean) :: wsX_
theorem qX_mayMove : GoodIn wsX_ (wsV RX0 102 RX0 yX0_mayMove wsX0_mayMove) := gi_V gX_all mX_ml_102 mX_im_mayMove mX_se_mayMove mX_in_ mX_co_mayMove
def wsX0_toBegin : List Cond := .code yX0_toBegin cX0_toBegin 1 (some .boolean) :: wsX_
def wsX0_wipe : List Cond := .code yX0_wipe cX0_wipe 1 none :: wsX_
def wsX0_event : List Cond := .code yX0_event cX0_event 2 (some .int) :: wsX_
def wsX0_look : List Cond := .code yX0_look cX0_look 2 (some .int) :: wsX_
def wsX0_of : List Cond := .code yX0_of cX0_of 3 (some .int) :: wsX_
def wsX0_stateOf : List Cond := .code yX0_stateOf cX0_stateOf 2 (some .int) :: wsX_
theorem qX_stateOf : GoodIn wsX_ (wsV RX0 116 RX0 yX0_stateOf wsX0_stateOf) := gi_V gX_all mX_ml_116 mX_im_stateOf mX_se_stateOf mX_in_ mX_co_stateOf
def wsX0_innermostAround : List Cond := .code yX0_innermostAround cX0_innermostAround 4 (some .int) :: wsX_
theorem qX_innermostAround : GoodIn wsX_ (wsV RX0 119 RX0 yX0_innermostAround wsX0_innermostAround) := gi_V gX_all mX_ml_119 mX_im_innermostAround mX_se_innermostAround mX_in_ mX_co_innermostAround
def wsX0_weightWithin : List Cond := .code yX0_weightWithin cX0_weightWithin 5 (some .int) :: wsX_
theorem qX_weightWithin : GoodIn wsX_ (wsV RX0 122 RX0 yX0_weightWithin wsX0_weightWithin) := gi_V gX_all mX_ml_122 mX_im_weightWithin mX_se_weightWithin mX_in_ mX_co_weightWithin
theorem dX0_init_0 : decode cX0_init 0 = .ok (.aload_n 0, 1) := by decide +kernel
theorem dX0_init_1 : decode cX0_init 1 = .ok (.invokespecial 3, 3) := by decide +kernel
theorem dX0_init_4 : decode cX0_init 4 = .ok (.aload_n 0, 1) := by decide +kernel
theorem dX0_init_5 : decode cX0_init 5 = .ok (.sipush 600, 3) := by decide +kernel
theorem dX0_init_8 : decode cX0_init 8 = .ok (.newarray .int, 2) := by decide +kernel
theorem dX0_init_10 : decode cX0_init 10 = .ok (.putfield 9, 3) := by decide +kernel
theorem dX0_init_13 : decode cX0_init 13 = .ok (.aload_n 0, 1) := by decide +kernel
theorem dX0_init_14 : decode cX0_init 14 = .ok (.sipush 600, 3) := by decide +kernel
theorem dX0_init_17 : decode cX0_init 17 = .ok (.newarray .int, 2) := by decide +kernel
theorem dX0_init_19 : decode cX0_init 19 = .ok (.putfield 13, 3) := by decide +kernel
theorem dX0_init_22 : decode cX0_init 22 = .ok (.aload_n 0, 1) := by decide +kernel
theorem dX0_init_23 : decode cX0_init 23 = .ok (.sipush 600, 3) := by decide +kernel
theorem dX0_init_26 : decode cX0_init 26 = .ok (.newarray .int, 2) := by decide +kernel
theorem dX0_init_28 : decode cX0_init 28 = .ok (.putfield 16, 3) := by decide +kernel
theorem dX0_init_31 : decode cX0_init 31 = .ok (.aload_n 0, 1) := by decide +kernel
theorem dX0_init_32 : decode cX0_init 32 = .ok (.sipush 600, 3) := by decide +kernel
theorem dX0_init_35 : decode cX0_init 35 = .ok (.newarray .int, 2) := by decide +kernel
theorem dX0_init_37 : decode cX0_init 37 = .ok (.putfield 19, 3) := by decide +kernel
theorem dX0_init_40 : decode cX0_init 40 = .ok (.aload_n 0, 1) := by decide +kernel
theorem dX0_init_41 : decode cX0_init 41 = .ok (.sipush 600, 3) := by decide +kernel
theorem dX0_init_44 : decode cX0_init 44 = .ok (.newarray .boolean, 2) := by decide +kernel
theorem dX0_init_46 : decode cX0_init 46 = .ok (.putfield 22, 3) := by decide +kernel
theorem dX0_init_49 : decode cX0_init 49 = .ok (.aload_n 0, 1) := by decide +kernel
theorem dX0_init_50 : decode cX0_init 50 = .ok (.sipush 1200, 3) := by decide +kernel
theorem dX0_init_53 : decode cX0_init 53 = .ok (.newarray .int, 2) := by decide +kernel
theorem dX0_init_55 : decode cX0_init 55 = .ok (.putfield 26, 3) := by decide +kernel
theorem dX0_init_58 : decode cX0_init 58 = .ok (.aload_n 0, 1) := by decide +kernel
theorem dX0_init_59 : decode cX0_init 59 = .ok (.bipush 64, 2) := by decide +kernel
theorem dX0_init_61 : decode cX0_init 61 = .ok (.newarray .int, 2) := by decide +kernel
theorem dX0_init_63 : decode cX0_init 63 = .ok (.putfield 29, 3) := by decide +kernel
theorem dX0_init_66 : decode cX0_init 66 = .ok (.aload_n 0, 1) := by decide +kernel
theorem dX0_init_67 : decode cX0_init 67 = .ok (.bipush 64, 2) := by decide +kernel
theorem dX0_init_69 : decode cX0_init 69 = .ok (.newarray .int, 2) := by decide +kernel
theorem dX0_init_71 : decode cX0_init 71 = .ok (.putfield 32, 3) := by decide +kernel
theorem dX0_init_74 : decode cX0_init 74 = .ok (.aload_n 0, 1) := by decide +kernel
theorem dX0_init_75 : decode cX0_init 75 = .ok (.bipush 64, 2) := by decide +kernel
theorem dX0_init_77 : decode cX0_init 77 = .ok (.newarray .int, 2) := by decide +kernel
theorem dX0_init_79 : decode cX0_init 79 = .ok (.putfield 35, 3) := by decide +kernel
theorem dX0_init_82 : decode cX0_init 82 = .ok (.aload_n 0, 1) := by decide +kernel
theorem dX0_init_83 : decode cX0_init 83 = .ok (.sipush 600, 3) := by decide +kernel
theorem dX0_init_86 : decode cX0_init 86 = .ok (.newarray .int, 2) := by decide +kernel
theorem dX0_init_88 : decode cX0_init 88 = .ok (.putfield 38, 3) := by decide +kernel
theorem dX0_init_91 : decode cX0_init 91 = .ok (.aload_n 0, 1) := by decide +kernel
theorem dX0_init_92 : decode cX0_init 92 = .ok (.invokevirtual 41, 3) := by decide +kernel
theorem dX0_init_95 : decode cX0_init 95 = .ok (.return_, 1) := by decide +kernel
theorem dX0_makeEmpty_0 : decode cX0_makeEmpty 0 = .ok (.iconst 0, 1) := by decide +kernel
theorem dX0_makeEmpty_1 : decode cX0_makeEmpty 1 = .ok (.istore_n 1, 1) := by decide +kernel
theorem dX0_makeEmpty_2 : decode cX0_makeEmpty 2 = .ok (.iload_n 1, 1) := by decide +kernel
theorem dX0_makeEmpty_3 : decode cX0_makeEmpty 3 = .ok (.sipush 600, 3) := by decide +kernel
theorem dX0_makeEmpty_6 : decode cX0_makeEmpty 6 = .ok (.if_icmp .ge 16, 3) := by decide +kernel
theorem dX0_makeEmpty_9 : decode cX0_makeEmpty 9 = .ok (.aload_n 0, 1) := by decide +kernel
theorem dX0_makeEmpty_10 : decode cX0_makeEmpty 10 = .ok (.getfield 16, 3) := by decide +kernel
theorem dX0_makeEmpty_13 : decode cX0_makeEmpty 13 = .ok (.iload_n 1, 1) := by decide +kernel
theorem dX0_makeEmpty_14 : decode cX0_makeEmpty 14 = .ok (.iconst (-1), 1) := by decide +kernel
theorem dX0_makeEmpty_15 : decode cX0_makeEmpty 15 = .ok (.iastore, 1) := by decide +kernel
theorem dX0_makeEmpty_16 : decode cX0_makeEmpty 16 = .ok (.iinc 1 1, 3) := by decide +kernel
theorem dX0_makeEmpty_19 : decode cX0_makeEmpty 19 = .ok (.goto (-17), 3) := by decide +kernel
theorem dX0_makeEmpty_22 : decode cX0_makeEmpty 22 = .ok (.aload_n 0, 1) := by decide +kernel
theorem dX0_makeEmpty_23 : decode cX0_makeEmpty 23 = .ok (.iconst 0, 1) := by decide +kernel
theorem dX0_makeEmpty_24 : decode cX0_makeEmpty 24 = .ok (.putfield 55, 3) := by decide +kernel
theorem dX0_makeEmpty_27 : decode cX0_makeEmpty 27 = .ok (.aload_n 0, 1) := by decide +kernel
theorem dX0_makeEmpty_28 : decode cX0_makeEmpty 28 = .ok (.iconst 0, 1) := by decide +kernel
theorem dX0_makeEmpty_29 : decode cX0_makeEmpty 29 = .ok (.putfield 79, 3) := by decide +kernel
theorem dX0_makeEmpty_32 : decode cX0_makeEmpty 32 = .ok (.aload_n 0, 1) := by decide +kernel
theorem dX0_makeEmpty_33 : decode cX0_makeEmpty 33 = .ok (.iconst 0, 1) := by decide +kernel
theorem dX0_makeEmpty_34 : decode cX0_makeEmpty 34 = .ok (.putfield 106, 3) := by decide +kernel
theorem dX0_makeEmpty_37 : decode cX0_makeEmpty 37 = .ok (.aload_n 0, 1) := by decide +kernel
theorem dX0_makeEmpty_38 : decode cX0_makeEmpty 38 = .ok (.iconst 0, 1) := by decide +kernel
theorem dX0_makeEmpty_39 : decode cX0_makeEmpty 39 = .ok (.putfield 96, 3) := by decide +kernel
theorem dX0_makeEmpty_42 : decode cX0_makeEmpty 42 = .ok (.aload_n 0, 1) := by decide +kernel
theorem dX0_makeEmpty_43 : decode cX0_makeEmpty 43 = .ok (.iconst 0, 1) := by decide +kernel
theorem dX0_makeEmpty_44 : decode cX0_makeEmpty 44 = .ok (.putfield 66, 3) := by decide +kernel
theorem dX0_makeEmpty_47 : decode cX0_makeEmpty 47 = .ok (.aload_n 0, 1) := by decide +kernel
theorem dX0_makeEmpty_48 : decode cX0_makeEmpty 48 = .ok (.getfield 29, 3) := by decide +kernel
theorem dX0_makeEmpty_51 : decode cX0_makeEmpty 51 = .ok (.iconst 0, 1) := by decide +kernel
theorem dX0_makeEmpty_52 : decode cX0_makeEmpty 52 = .ok (.iconst (-1), 1) := by decide +kernel
theorem dX0_makeEmpty_53 : decode cX0_makeEmpty 53 = .ok (.iastore, 1) := by decide +kernel
theorem dX0_makeEmpty_54 : decode cX0_makeEmpty 54 = .ok (.aload_n 0, 1) := by decide +kernel
theorem dX0_makeEmpty_55 : decode cX0_makeEmpty 55 = .ok (.getfield 32, 3) := by decide +kernel
theorem dX0_makeEmpty_58 : decode cX0_makeEmpty 58 = .ok (.iconst 0, 1) := by decide +kernel
theorem dX0_makeEmpty_59 : decode cX0_makeEmpty 59 = .ok (.iconst 0, 1) := by decide +kernel
theorem dX0_makeEmpty_60 : decode cX0_makeEmpty 60 = .ok (.iastore, 1) := by decide +kernel
theorem dX0_makeEmpty_61 : decode cX0_makeEmpty 61 = .ok (.aload_n 0, 1) := by decide +kernel
theorem dX0_makeEmpty_62 : decode cX0_makeEmpty 62 = .ok (.getfield 35, 3) := by decide +kernel
theorem dX0_makeEmpty_65 : decode cX0_makeEmpty 65 = .ok (.iconst 0, 1) := by decide +kernel
theorem dX0_makeEmpty_66 : decode cX0_makeEmpty 66 = .ok (.iconst 0, 1) := by decide +kernel
theorem dX0_makeEmpty_67 : decode cX0_makeEmpty 67 = .ok (.iastore, 1) := by decide +kernel
theorem dX0_makeEmpty_68 : decode cX0_makeEmpty 68 = .ok (.aload_n 0, 1) := by decide +kernel
theorem dX0_makeEmpty_69 : decode cX0_makeEmpty 69 = .ok (.iconst 1, 1) := by decide +kernel
theorem dX0_makeEmpty_70 : decode cX0_makeEmpty 70 = .ok (.putfield 82, 3) := by decide +kernel
theorem dX0_makeEmpty_73 : decode cX0_makeEmpty 73 = .ok (.aload_n 0, 1) := by decide +kernel
theorem dX0_makeEmpty_74 : decode cX0_makeEmpty 74 = .ok (.iconst 0, 1) := by decide +kernel
theorem dX0_makeEmpty_75 : decode cX0_makeEmpty 75 = .ok (.putfield 51, 3) := by decide +kernel
theorem dX0_makeEmpty_78 : decode cX0_makeEmpty 78 = .ok (.return_, 1) := by decide +kernel
theorem dX0_begin_0 : decode cX0_begin 0 = .ok (.aload_n 0, 1) := by decide +kernel
theorem dX0_begin_1 : decode cX0_begin 1 = .ok (.invokevirtual 44, 3) := by decide +kernel
theorem dX0_begin_4 : decode cX0_begin 4 = .ok (.istore_n 2, 1) := by decide +kernel
theorem dX0_begin_5 : decode cX0_begin 5 = .ok (.iload_n 2, 1) := by decide +kernel
theorem dX0_begin_6 : decode cX0_begin 6 = .ok (.iconst (-1), 1) := by decide +kernel
theorem dX0_begin_7 : decode cX0_begin 7 = .ok (.if_icmp .eq 21, 3) := by decide +kernel
theorem dX0_begin_10 : decode cX0_begin 10 = .ok (.aload_n 0, 1) := by decide +kernel
theorem dX0_begin_11 : decode cX0_begin 11 = .ok (.invokevirtual 48, 3) := by decide +kernel
theorem dX0_begin_14 : decode cX0_begin 14 = .ok (.iconst 2, 1) := by decide +kernel
theorem dX0_begin_15 : decode cX0_begin 15 = .ok (.if_icmp .eq 13, 3) := by decide +kernel
theorem dX0_begin_18 : decode cX0_begin 18 = .ok (.aload_n 0, 1) := by decide +kernel
theorem dX0_begin_19 : decode cX0_begin 19 = .ok (.getfield 51, 3) := by decide +kernel
theorem dX0_begin_22 : decode cX0_begin 22 = .ok (.sipush 600, 3) := by decide +kernel
theorem dX0_begin_25 : decode cX0_begin 25 = .ok (.if_icmp .lt 5, 3) := by decide +kernel
theorem dX0_begin_28 : decode cX0_begin 28 = .ok (.iconst (-1), 1) := by decide +kernel
theorem dX0_begin_29 : decode cX0_begin 29 = .ok (.ireturn, 1) := by decide +kernel
theorem dX0_begin_30 : decode cX0_begin 30 = .ok (.aload_n 0, 1) := by decide +kernel
theorem dX0_begin_31 : decode cX0_begin 31 = .ok (.getfield 9, 3) := by decide +kernel
theorem dX0_begin_34 : decode cX0_begin 34 = .ok (.iload_n 2, 1) := by decide +kernel
theorem dX0_begin_35 : decode cX0_begin 35 = .ok (.iload_n 1, 1) := by decide +kernel
theorem dX0_begin_36 : decode cX0_begin 36 = .ok (.iastore, 1) := by decide +kernel
theorem dX0_begin_37 : decode cX0_begin 37 = .ok (.aload_n 0, 1) := by decide +kernel
theorem dX0_begin_38 : decode cX0_begin 38 = .ok (.getfield 13, 3) := by decide +kernel
theorem dX0_begin_41 : decode cX0_begin 41 = .ok (.iload_n 2, 1) := by decide +kernel
theorem dX0_begin_42 : decode cX0_begin 42 = .ok (.iconst 0, 1) := by decide +kernel
theorem dX0_begin_43 : decode cX0_begin 43 = .ok (.iastore, 1) := by decide +kernel
theorem dX0_begin_44 : decode cX0_begin 44 = .ok (.aload_n 0, 1) := by decide +kernel
theorem dX0_begin_45 : decode cX0_begin 45 = .ok (.getfield 19, 3) := by decide +kernel
theorem dX0_begin_48 : decode cX0_begin 48 = .ok (.iload_n 2, 1) := by decide +kernel
theorem dX0_begin_49 : decode cX0_begin 49 = .ok (.iconst (-1), 1) := by decide +kernel
theorem dX0_begin_50 : decode cX0_begin 50 = .ok (.iastore, 1) := by decide +kernel
theorem dX0_begin_51 : decode cX0_begin 51 = .ok (.aload_n 0, 1) := by decide +kernel
theorem dX0_begin_52 : decode cX0_begin 52 = .ok (.getfield 22, 3) := by decide +kernel
theorem dX0_begin_55 : decode cX0_begin 55 = .ok (.iload_n 2, 1) := by decide +kernel
theorem dX0_begin_56 : decode cX0_begin 56 = .ok (.iconst 0, 1) := by decide +kernel
theorem dX0_begin_57 : decode cX0_begin 57 = .ok (.bastore, 1) := by decide +kernel
theorem dX0_begin_58 : decode cX0_begin 58 = .ok (.aload_n 0, 1) := by decide +kernel
theorem dX0_begin_59 : decode cX0_begin 59 = .ok (.dup, 1) := by decide +kernel
theorem dX0_begin_60 : decode cX0_begin 60 = .ok (.getfield 55, 3) := by decide +kernel
theorem dX0_begin_63 : decode cX0_begin 63 = .ok (.iconst 1, 1) := by decide +kernel
theorem dX0_begin_64 : decode cX0_begin 64 = .ok (.iadd, 1) := by decide +kernel
theorem dX0_begin_65 : decode cX0_begin 65 = .ok (.putfield 55, 3) := by decide +kernel
theorem dX0_begin_68 : decode cX0_begin 68 = .ok (.aload_n 0, 1) := by decide +kernel
theorem dX0_begin_69 : decode cX0_begin 69 = .ok (.iconst 2, 1) := by decide +kernel
theorem dX0_begin_70 : decode cX0_begin 70 = .ok (.iload_n 2, 1) := by decide +kernel
theorem dX0_begin_71 : decode cX0_begin 71 = .ok (.imul, 1) := by decide +kernel
theorem dX0_begin_72 : decode cX0_begin 72 = .ok (.invokevirtual 58, 3) := by decide +kernel
theorem dX0_begin_75 : decode cX0_begin 75 = .ok (.aload_n 0, 1) := by decide +kernel
theorem dX0_begin_76 : decode cX0_begin 76 = .ok (.getfield 38, 3) := by decide +kernel
theorem dX0_begin_79 : decode cX0_begin 79 = .ok (.aload_n 0, 1) := by decide +kernel
theorem dX0_begin_80 : decode cX0_begin 80 = .ok (.getfield 51, 3) := by decide +kernel
theorem dX0_begin_83 : decode cX0_begin 83 = .ok (.iload_n 2, 1) := by decide +kernel
theorem dX0_begin_84 : decode cX0_begin 84 = .ok (.iastore, 1) := by decide +kernel
theorem dX0_begin_85 : decode cX0_begin 85 = .ok (.aload_n 0, 1) := by decide +kernel
theorem dX0_begin_86 : decode cX0_begin 86 = .ok (.dup, 1) := by decide +kernel
theorem dX0_begin_87 : decode cX0_begin 87 = .ok (.getfield 51, 3) := by decide +kernel
theorem dX0_begin_90 : decode cX0_begin 90 = .ok (.iconst 1, 1) := by decide +kernel
theorem dX0_begin_91 : decode cX0_begin 91 = .ok (.iadd, 1) := by decide +kernel
theorem dX0_begin_92 : decode cX0_begin 92 = .ok (.putfield 51, 3) := by decide +kernel
theorem dX0_begin_95 : decode cX0_begin 95 = .ok (.iload_n 2, 1) := by decide +kernel
theorem dX0_begin_96 : decode cX0_begin 96 = .ok (.ireturn, 1) := by decide +kernel
theorem dX0_leastFreeNumber_0 : decode cX0_leastFreeNumber 0 = .ok (.iconst 0, 1) := by decide +kernel
theorem dX0_leastFreeNumber_1 : decode cX0_leastFreeNumber 1 = .ok (.istore_n 1, 1) := by decide +kernel
theorem dX0_leastFreeNumber_2 : decode cX0_leastFreeNumber 2 = .ok (.iload_n 1, 1) := by decide +kernel
theorem dX0_leastFreeNumber_3 : decode cX0_leastFreeNumber 3 = .ok (.sipush 600, 3) := by decide +kernel
theorem dX0_leastFreeNumber_6 : decode cX0_leastFreeNumber 6 = .ok (.if_icmp .ge 21, 3) := by decide +kernel
theorem dX0_leastFreeNumber_9 : decode cX0_leastFreeNumber 9 = .ok (.aload_n 0, 1) := by decide +kernel
theorem dX0_leastFreeNumber_10 : decode cX0_leastFreeNumber 10 = .ok (.getfield 16, 3) := by decide +kernel
theorem dX0_leastFreeNumber_13 : decode cX0_leastFreeNumber 13 = .ok (.iload_n 1, 1) := by decide +kernel
theorem dX0_leastFreeNumber_14 : decode cX0_leastFreeNumber 14 = .ok (.iaload, 1) := by decide +kernel
theorem dX0_leastFreeNumber_15 : decode cX0_leastFreeNumber 15 = .ok (.iconst (-1), 1) := by decide +kernel
theorem dX0_leastFreeNumber_16 : decode cX0_leastFreeNumber 16 = .ok (.if_icmp .ne 5, 3) := by decide +kernel
theorem dX0_leastFreeNumber_19 : decode cX0_leastFreeNumber 19 = .ok (.iload_n 1, 1) := by decide +kernel
theorem dX0_leastFreeNumber_20 : decode cX0_leastFreeNumber 20 = .ok (.ireturn, 1) := by decide +kernel
theorem dX0_leastFreeNumber_21 : decode cX0_leastFreeNumber 21 = .ok (.iinc 1 1, 3) := by decide +kernel
theorem dX0_leastFreeNumber_24 : decode cX0_leastFreeNumber 24 = .ok (.goto (-22), 3) := by decide +kernel
theorem dX0_leastFreeNumber_27 : decode cX0_leastFreeNumber 27 = .ok (.iconst (-1), 1) := by decide +kernel
theorem dX0_leastFreeNumber_28 : decode cX0_leastFreeNumber 28 = .ok (.ireturn, 1) := by decide +kernel
theorem dX0_lastKind_0 : decode cX0_lastKind 0 = .ok (.aload_n 0, 1) := by decide +kernel
theorem dX0_lastKind_1 : decode cX0_lastKind 1 = .ok (.getfield 32, 3) := by decide +kernel
theorem dX0_lastKind_4 : decode cX0_lastKind 4 = .ok (.aload_n 0, 1) := by decide +kernel
theorem dX0_lastKind_5 : decode cX0_lastKind 5 = .ok (.getfield 82, 3) := by decide +kernel
theorem dX0_lastKind_8 : decode cX0_lastKind 8 = .ok (.iconst 1, 1) := by decide +kernel
theorem dX0_lastKind_9 : decode cX0_lastKind 9 = .ok (.isub, 1) := by decide +kernel
theorem dX0_lastKind_10 : decode cX0_lastKind 10 = .ok (.iaload, 1) := by decide +kernel
theorem dX0_lastKind_11 : decode cX0_lastKind 11 = .ok (.ireturn, 1) := by decide +kernel
theorem dX0_putAtCursor_0 : decode cX0_putAtCursor 0 = .ok (.aload_n 0, 1) := by decide +kernel
theorem dX0_putAtCursor_1 : decode cX0_putAtCursor 1 = .ok (.getfield 106, 3) := by decide +kernel
theorem dX0_putAtCursor_4 : decode cX0_putAtCursor 4 = .ok (.sipush 1200, 3) := by decide +kernel
theorem dX0_putAtCursor_7 : decode cX0_putAtCursor 7 = .ok (.if_icmp .lt 4, 3) := by decide +kernel
theorem dX0_putAtCursor_10 : decode cX0_putAtCursor 10 = .ok (.return_, 1) := by decide +kernel
theorem dX0_putAtCursor_11 : decode cX0_putAtCursor 11 = .ok (.aload_n 0, 1) := by decide +kernel
theorem dX0_putAtCursor_12 : decode cX0_putAtCursor 12 = .ok (.getfield 106, 3) := by decide +kernel
theorem dX0_putAtCursor_15 : decode cX0_putAtCursor 15 = .ok (.istore_n 2, 1) := by decide +kernel
theorem dX0_putAtCursor_16 : decode cX0_putAtCursor 16 = .ok (.iload_n 2, 1) := by decide +kernel
theorem dX0_putAtCursor_17 : decode cX0_putAtCursor 17 = .ok (.aload_n 0, 1) := by decide +kernel
theorem dX0_putAtCursor_18 : decode cX0_putAtCursor 18 = .ok (.getfield 96, 3) := by decide +kernel
theorem dX0_putAtCursor_21 : decode cX0_putAtCursor 21 = .ok (.if_icmp .le 22, 3) := by decide +kernel
theorem dX0_putAtCursor_24 : decode cX0_putAtCursor 24 = .ok (.aload_n 0, 1) := by decide +kernel
theorem dX0_putAtCursor_25 : decode cX0_putAtCursor 25 = .ok (.aload_n 0, 1) := by decide +kernel
theorem dX0_putAtCursor_26 : decode cX0_putAtCursor 26 = .ok (.getfield 26, 3) := by decide +kernel
theorem dX0_putAtCursor_29 : decode cX0_putAtCursor 29 = .ok (.iload_n 2, 1) := by decide +kernel
theorem dX0_putAtCursor_30 : decode cX0_putAtCursor 30 = .ok (.iconst 1, 1) := by decide +kernel
theorem dX0_putAtCursor_31 : decode cX0_putAtCursor 31 = .ok (.isub, 1) := by decide +kernel
theorem dX0_putAtCursor_32 : decode cX0_putAtCursor 32 = .ok (.iaload, 1) := by decide +kernel
theorem dX0_putAtCursor_33 : decode cX0_putAtCursor 33 = .ok (.iload_n 2, 1) := by decide +kernel
theorem dX0_putAtCursor_34 : decode cX0_putAtCursor 34 = .ok (.invokevirtual 133, 3) := by decide +kernel
theorem dX0_putAtCursor_37 : decode cX0_putAtCursor 37 = .ok (.iinc 2 (-1), 3) := by decide +kernel
theorem dX0_putAtCursor_40 : decode cX0_putAtCursor 40 = .ok (.goto (-24), 3) := by decide +kernel
theorem dX0_putAtCursor_43 : decode cX0_putAtCursor 43 = .ok (.aload_n 0, 1) := by decide +kernel
theorem dX0_putAtCursor_44 : decode cX0_putAtCursor 44 = .ok (.iload_n 1, 1) := by decide +kernel
theorem dX0_putAtCursor_45 : decode cX0_putAtCursor 45 = .ok (.aload_n 0, 1) := by decide +kernel
theorem dX0_putAtCursor_46 : decode cX0_putAtCursor 46 = .ok (.getfield 96, 3) := by decide +kernel
theorem dX0_putAtCursor_49 : decode cX0_putAtCursor 49 = .ok (.invokevirtual 133, 3) := by decide +kernel
theorem dX0_putAtCursor_52 : decode cX0_putAtCursor 52 = .ok (.aload_n 0, 1) := by decide +kernel
theorem dX0_putAtCursor_53 : decode cX0_putAtCursor 53 = .ok (.dup, 1) := by decide +kernel
theorem dX0_putAtCursor_54 : decode cX0_putAtCursor 54 = .ok (.getfield 106, 3) := by decide +kernel
theorem dX0_putAtCursor_57 : decode cX0_putAtCursor 57 = .ok (.iconst 1, 1) := by decide +kernel
theorem dX0_putAtCursor_58 : decode cX0_putAtCursor 58 = .ok (.iadd, 1) := by decide +kernel
theorem dX0_putAtCursor_59 : decode cX0_putAtCursor 59 = .ok (.putfield 106, 3) := by decide +kernel
theorem dX0_putAtCursor_62 : decode cX0_putAtCursor 62 = .ok (.aload_n 0, 1) := by decide +kernel
theorem dX0_putAtCursor_63 : decode cX0_putAtCursor 63 = .ok (.dup, 1) := by decide +kernel
theorem dX0_putAtCursor_64 : decode cX0_putAtCursor 64 = .ok (.getfield 96, 3) := by decide +kernel
theorem dX0_putAtCursor_67 : decode cX0_putAtCursor 67 = .ok (.iconst 1, 1) := by decide +kernel
theorem dX0_putAtCursor_68 : decode cX0_putAtCursor 68 = .ok (.iadd, 1) := by decide +kernel
theorem dX0_putAtCursor_69 : decode cX0_putAtCursor 69 = .ok (.putfield 96, 3) := by decide +kernel
theorem dX0_putAtCursor_72 : decode cX0_putAtCursor 72 = .ok (.return_, 1) := by decide +kernel
theorem dX0_setPlace_0 : decode cX0_setPlace 0 = .ok (.aload_n 0, 1) := by decide +kernel
theorem dX0_setPlace_1 : decode cX0_setPlace 1 = .ok (.getfield 26, 3) := by decide +kernel
theorem dX0_setPlace_4 : decode cX0_setPlace 4 = .ok (.iload_n 2, 1) := by decide +kernel
theorem dX0_setPlace_5 : decode cX0_setPlace 5 = .ok (.iload_n 1, 1) := by decide +kernel
theorem dX0_setPlace_6 : decode cX0_setPlace 6 = .ok (.iastore, 1) := by decide +kernel
theorem dX0_setPlace_7 : decode cX0_setPlace 7 = .ok (.iload_n 1, 1) := by decide +kernel
theorem dX0_setPlace_8 : decode cX0_setPlace 8 = .ok (.invokestatic 130, 3) := by decide +kernel
theorem dX0_setPlace_11 : decode cX0_setPlace 11 = .ok (.ifCond .eq 15, 3) := by decide +kernel
theorem dX0_setPlace_14 : decode cX0_setPlace 14 = .ok (.aload_n 0, 1) := by decide +kernel
theorem dX0_setPlace_15 : decode cX0_setPlace 15 = .ok (.getfield 16, 3) := by decide +kernel
theorem dX0_setPlace_18 : decode cX0_setPlace 18 = .ok (.iload_n 1, 1) := by decide +kernel
theorem dX0_setPlace_19 : decode cX0_setPlace 19 = .ok (.iconst 2, 1) := by decide +kernel
theorem dX0_setPlace_20 : decode cX0_setPlace 20 = .ok (.idiv, 1) := by decide +kernel
theorem dX0_setPlace_21 : decode cX0_setPlace 21 = .ok (.iload_n 2, 1) := by decide +kernel
theorem dX0_setPlace_22 : decode cX0_setPlace 22 = .ok (.iastore, 1) := by decide +kernel
theorem dX0_setPlace_23 : decode cX0_setPlace 23 = .ok (.goto 12, 3) := by decide +kernel
theorem dX0_setPlace_26 : decode cX0_setPlace 26 = .ok (.aload_n 0, 1) := by decide +kernel
theorem dX0_setPlace_27 : decode cX0_setPlace 27 = .ok (.getfield 19, 3) := by decide +kernel
theorem dX0_setPlace_30 : decode cX0_setPlace 30 = .ok (.iload_n 1, 1) := by decide +kernel
theorem dX0_setPlace_31 : decode cX0_setPlace 31 = .ok (.iconst 2, 1) := by decide +kernel
theorem dX0_setPlace_32 : decode cX0_setPlace 32 = .ok (.idiv, 1) := by decide +kernel
theorem dX0_setPlace_33 : decode cX0_setPlace 33 = .ok (.iload_n 2, 1) := by decide +kernel
theorem dX0_setPlace_34 : decode cX0_setPlace 34 = .ok (.iastore, 1) := by decide +kernel
theorem dX0_setPlace_35 : decode cX0_setPlace 35 = .ok (.return_, 1) := by decide +kernel
theorem dX0_isStart_0 : decode cX0_isStart 0 = .ok (.iload_n 0, 1) := by decide +kernel
theorem dX0_isStart_1 : decode cX0_isStart 1 = .ok (.iconst 2, 1) := by decide +kernel
theorem dX0_isStart_2 : decode cX0_isStart 2 = .ok (.irem, 1) := by decide +kernel
theorem dX0_isStart_3 : decode cX0_isStart 3 = .ok (.ifCond .ne 7, 3) := by decide +kernel
theorem dX0_isStart_6 : decode cX0_isStart 6 = .ok (.iconst 1, 1) := by decide +kernel
theorem dX0_isStart_7 : decode cX0_isStart 7 = .ok (.goto 4, 3) := by decide +kernel
theorem dX0_isStart_10 : decode cX0_isStart 10 = .ok (.iconst 0, 1) := by decide +kernel
theorem dX0_isStart_11 : decode cX0_isStart 11 = .ok (.ireturn, 1) := by decide +kernel
theorem dX0_end_0 : decode cX0_end 0 = .ok (.aload_n 0, 1) := by decide +kernel
theorem dX0_end_1 : decode cX0_end 1 = .ok (.invokevirtual 62, 3) := by decide +kernel
theorem dX0_end_4 : decode cX0_end 4 = .ok (.istore_n 1, 1) := by decide +kernel
theorem dX0_end_5 : decode cX0_end 5 = .ok (.iload_n 1, 1) := by decide +kernel
theorem dX0_end_6 : decode cX0_end 6 = .ok (.iconst (-1), 1) := by decide +kernel
theorem dX0_end_7 : decode cX0_end 7 = .ok (.if_icmp .ne 5, 3) := by decide +kernel
theorem dX0_end_10 : decode cX0_end 10 = .ok (.iconst (-1), 1) := by decide +kernel
theorem dX0_end_11 : decode cX0_end 11 = .ok (.ireturn, 1) := by decide +kernel
theorem dX0_end_12 : decode cX0_end 12 = .ok (.aload_n 0, 1) := by decide +kernel
theorem dX0_end_13 : decode cX0_end 13 = .ok (.iconst 2, 1) := by decide +kernel
theorem dX0_end_14 : decode cX0_end 14 = .ok (.iload_n 1, 1) := by decide +kernel
theorem dX0_end_15 : decode cX0_end 15 = .ok (.imul, 1) := by decide +kernel
theorem dX0_end_16 : decode cX0_end 16 = .ok (.iconst 1, 1) := by decide +kernel
theorem dX0_end_17 : decode cX0_end 17 = .ok (.iadd, 1) := by decide +kernel
theorem dX0_end_18 : decode cX0_end 18 = .ok (.invokevirtual 58, 3) := by decide +kernel
theorem dX0_end_21 : decode cX0_end 21 = .ok (.aload_n 0, 1) := by decide +kernel
theorem dX0_end_22 : decode cX0_end 22 = .ok (.dup, 1) := by decide +kernel
theorem dX0_end_23 : decode cX0_end 23 = .ok (.getfield 51, 3) := by decide +kernel
theorem dX0_end_26 : decode cX0_end 26 = .ok (.iconst 1, 1) := by decide +kernel
theorem dX0_end_27 : decode cX0_end 27 = .ok (.isub, 1) := by decide +kernel
theorem dX0_end_28 : decode cX0_end 28 = .ok (.putfield 51, 3) := by decide +kernel
theorem dX0_end_31 : decode cX0_end 31 = .ok (.iload_n 1, 1) := by decide +kernel
theorem dX0_end_32 : decode cX0_end 32 = .ok (.ireturn, 1) := by decide +kernel
theorem dX0_lastOpen_0 : decode cX0_lastOpen 0 = .ok (.aload_n 0, 1) := by decide +kernel
theorem dX0_lastOpen_1 : decode cX0_lastOpen 1 = .ok (.getfield 51, 3) := by decide +kernel
theorem dX0_lastOpen_4 : decode cX0_lastOpen 4 = .ok (.aload_n 0, 1) := by decide +kernel
theorem dX0_lastOpen_5 : decode cX0_lastOpen 5 = .ok (.getfield 35, 3) := by decide +kernel
theorem dX0_lastOpen_8 : decode cX0_lastOpen 8 = .ok (.aload_n 0, 1) := by decide +kernel
theorem dX0_lastOpen_9 : decode cX0_lastOpen 9 = .ok (.getfield 82, 3) := by decide +kernel
theorem dX0_lastOpen_12 : decode cX0_lastOpen 12 = .ok (.iconst 1, 1) := by decide +kernel
theorem dX0_lastOpen_13 : decode cX0_lastOpen 13 = .ok (.isub, 1) := by decide +kernel
theorem dX0_lastOpen_14 : decode cX0_lastOpen 14 = .ok (.iaload, 1) := by decide +kernel
theorem dX0_lastOpen_15 : decode cX0_lastOpen 15 = .ok (.if_icmp .le 17, 3) := by decide +kernel
theorem dX0_lastOpen_18 : decode cX0_lastOpen 18 = .ok (.aload_n 0, 1) := by decide +kernel
theorem dX0_lastOpen_19 : decode cX0_lastOpen 19 = .ok (.getfield 38, 3) := by decide +kernel
theorem dX0_lastOpen_22 : decode cX0_lastOpen 22 = .ok (.aload_n 0, 1) := by decide +kernel
theorem dX0_lastOpen_23 : decode cX0_lastOpen 23 = .ok (.getfield 51, 3) := by decide +kernel
theorem dX0_lastOpen_26 : decode cX0_lastOpen 26 = .ok (.iconst 1, 1) := by decide +kernel
theorem dX0_lastOpen_27 : decode cX0_lastOpen 27 = .ok (.isub, 1) := by decide +kernel
theorem dX0_lastOpen_28 : decode cX0_lastOpen 28 = .ok (.iaload, 1) := by decide +kernel
theorem dX0_lastOpen_29 : decode cX0_lastOpen 29 = .ok (.goto 4, 3) := by decide +kernel
theorem dX0_lastOpen_32 : decode cX0_lastOpen 32 = .ok (.iconst (-1), 1) := by decide +kernel
theorem dX0_lastOpen_33 : decode cX0_lastOpen 33 = .ok (.ireturn, 1) := by decide +kernel
theorem dX0_weigh_0 : decode cX0_weigh 0 = .ok (.iload_n 1, 1) := by decide +kernel
theorem dX0_weigh_1 : decode cX0_weigh 1 = .ok (.ifCond .lt 22, 3) := by decide +kernel
theorem dX0_weigh_4 : decode cX0_weigh 4 = .ok (.aload_n 0, 1) := by decide +kernel
theorem dX0_weigh_5 : decode cX0_weigh 5 = .ok (.invokevirtual 48, 3) := by decide +kernel
theorem dX0_weigh_8 : decode cX0_weigh 8 = .ok (.iconst 2, 1) := by decide +kernel
theorem dX0_weigh_9 : decode cX0_weigh 9 = .ok (.if_icmp .eq 14, 3) := by decide +kernel
theorem dX0_weigh_12 : decode cX0_weigh 12 = .ok (.iload_n 1, 1) := by decide +kernel
theorem dX0_weigh_13 : decode cX0_weigh 13 = .ok (.ldc 65, 2) := by decide +kernel
theorem dX0_weigh_15 : decode cX0_weigh 15 = .ok (.aload_n 0, 1) := by decide +kernel
theorem dX0_weigh_16 : decode cX0_weigh 16 = .ok (.getfield 66, 3) := by decide +kernel
theorem dX0_weigh_19 : decode cX0_weigh 19 = .ok (.isub, 1) := by decide +kernel
theorem dX0_weigh_20 : decode cX0_weigh 20 = .ok (.if_icmp .le 5, 3) := by decide +kernel
theorem dX0_weigh_23 : decode cX0_weigh 23 = .ok (.iconst 0, 1) := by decide +kernel
theorem dX0_weigh_24 : decode cX0_weigh 24 = .ok (.ireturn, 1) := by decide +kernel
theorem dX0_weigh_25 : decode cX0_weigh 25 = .ok (.aload_n 0, 1) := by decide +kernel
theorem dX0_weigh_26 : decode cX0_weigh 26 = .ok (.invokevirtual 62, 3) := by decide +kernel
theorem dX0_weigh_29 : decode cX0_weigh 29 = .ok (.istore_n 2, 1) := by decide +kernel
theorem dX0_weigh_30 : decode cX0_weigh 30 = .ok (.iload_n 2, 1) := by decide +kernel
theorem dX0_weigh_31 : decode cX0_weigh 31 = .ok (.iconst (-1), 1) := by decide +kernel
theorem dX0_weigh_32 : decode cX0_weigh 32 = .ok (.if_icmp .ne 8, 3) := by decide +kernel
theorem dX0_weigh_35 : decode cX0_weigh 35 = .ok (.aload_n 0, 1) := by decide +kernel
theorem dX0_weigh_36 : decode cX0_weigh 36 = .ok (.invokevirtual 69, 3) := by decide +kernel
theorem dX0_weigh_39 : decode cX0_weigh 39 = .ok (.istore_n 2, 1) := by decide +kernel
theorem dX0_weigh_40 : decode cX0_weigh 40 = .ok (.iload_n 2, 1) := by decide +kernel
theorem dX0_weigh_41 : decode cX0_weigh 41 = .ok (.iconst (-1), 1) := by decide +kernel
theorem dX0_weigh_42 : decode cX0_weigh 42 = .ok (.if_icmp .eq 13, 3) := by decide +kernel
theorem dX0_weigh_45 : decode cX0_weigh 45 = .ok (.aload_n 0, 1) := by decide +kernel
theorem dX0_weigh_46 : decode cX0_weigh 46 = .ok (.getfield 13, 3) := by decide +kernel
theorem dX0_weigh_49 : decode cX0_weigh 49 = .ok (.iload_n 2, 1) := by decide +kernel
theorem dX0_weigh_50 : decode cX0_weigh 50 = .ok (.dup2, 1) := by decide +kernel
theorem dX0_weigh_51 : decode cX0_weigh 51 = .ok (.iaload, 1) := by decide +kernel
theorem dX0_weigh_52 : decode cX0_weigh 52 = .ok (.iload_n 1, 1) := by decide +kernel
theorem dX0_weigh_53 : decode cX0_weigh 53 = .ok (.iadd, 1) := by decide +kernel
theorem dX0_weigh_54 : decode cX0_weigh 54 = .ok (.iastore, 1) := by decide +kernel
theorem dX0_weigh_55 : decode cX0_weigh 55 = .ok (.aload_n 0, 1) := by decide +kernel
theorem dX0_weigh_56 : decode cX0_weigh 56 = .ok (.dup, 1) := by decide +kernel
theorem dX0_weigh_57 : decode cX0_weigh 57 = .ok (.getfield 66, 3) := by decide +kernel
theorem dX0_weigh_60 : decode cX0_weigh 60 = .ok (.iload_n 1, 1) := by decide +kernel
theorem dX0_weigh_61 : decode cX0_weigh 61 = .ok (.iadd, 1) := by decide +kernel
theorem dX0_weigh_62 : decode cX0_weigh 62 = .ok (.putfield 66, 3) := by decide +kernel
theorem dX0_weigh_65 : decode cX0_weigh 65 = .ok (.iconst 1, 1) := by decide +kernel
theorem dX0_weigh_66 : decode cX0_weigh 66 = .ok (.ireturn, 1) := by decide +kernel
theorem dX0_lastInterval_0 : decode cX0_lastInterval 0 = .ok (.aload_n 0, 1) := by decide +kernel
theorem dX0_lastInterval_1 : decode cX0_lastInterval 1 = .ok (.getfield 29, 3) := by decide +kernel
theorem dX0_lastInterval_4 : decode cX0_lastInterval 4 = .ok (.aload_n 0, 1) := by decide +kernel
theorem dX0_lastInterval_5 : decode cX0_lastInterval 5 = .ok (.getfield 82, 3) := by decide +kernel
theorem dX0_lastInterval_8 : decode cX0_lastInterval 8 = .ok (.iconst 1, 1) := by decide +kernel
theorem dX0_lastInterval_9 : decode cX0_lastInterval 9 = .ok (.isub, 1) := by decide +kernel
theorem dX0_lastInterval_10 : decode cX0_lastInterval 10 = .ok (.iaload, 1) := by decide +kernel
theorem dX0_lastInterval_11 : decode cX0_lastInterval 11 = .ok (.ireturn, 1) := by decide +kernel
theorem dX0_stale_0 : decode cX0_stale 0 = .ok (.aload_n 0, 1) := by decide +kernel
theorem dX0_stale_1 : decode cX0_stale 1 = .ok (.iload_n 1, 1) := by decide +kernel
theorem dX0_stale_2 : decode cX0_stale 2 = .ok (.invokevirtual 72, 3) := by decide +kernel
theorem dX0_stale_5 : decode cX0_stale 5 = .ok (.ifCond .eq 20, 3) := by decide +kernel
theorem dX0_stale_8 : decode cX0_stale 8 = .ok (.aload_n 0, 1) := by decide +kernel
theorem dX0_stale_9 : decode cX0_stale 9 = .ok (.iload_n 1, 1) := by decide +kernel
theorem dX0_stale_10 : decode cX0_stale 10 = .ok (.invokevirtual 76, 3) := by decide +kernel
theorem dX0_stale_13 : decode cX0_stale 13 = .ok (.ifCond .eq 12, 3) := by decide +kernel
theorem dX0_stale_16 : decode cX0_stale 16 = .ok (.aload_n 0, 1) := by decide +kernel
theorem dX0_stale_17 : decode cX0_stale 17 = .ok (.getfield 22, 3) := by decide +kernel
theorem dX0_stale_20 : decode cX0_stale 20 = .ok (.iload_n 1, 1) := by decide +kernel
theorem dX0_stale_21 : decode cX0_stale 21 = .ok (.baload, 1) := by decide +kernel
theorem dX0_stale_22 : decode cX0_stale 22 = .ok (.ifCond .eq 5, 3) := by decide +kernel
theorem dX0_stale_25 : decode cX0_stale 25 = .ok (.iconst 0, 1) := by decide +kernel
theorem dX0_stale_26 : decode cX0_stale 26 = .ok (.ireturn, 1) := by decide +kernel
theorem dX0_stale_27 : decode cX0_stale 27 = .ok (.aload_n 0, 1) := by decide +kernel
theorem dX0_stale_28 : decode cX0_stale 28 = .ok (.getfield 22, 3) := by decide +kernel
theorem dX0_stale_31 : decode cX0_stale 31 = .ok (.iload_n 1, 1) := by decide +kernel
theorem dX0_stale_32 : decode cX0_stale 32 = .ok (.iconst 1, 1) := by decide +kernel
theorem dX0_stale_33 : decode cX0_stale 33 = .ok (.bastore, 1) := by decide +kernel
theorem dX0_stale_34 : decode cX0_stale 34 = .ok (.aload_n 0, 1) := by decide +kernel
theorem dX0_stale_35 : decode cX0_stale 35 = .ok (.dup, 1) := by decide +kernel
theorem dX0_stale_36 : decode cX0_stale 36 = .ok (.getfield 79, 3) := by decide +kernel
theorem dX0_stale_39 : decode cX0_stale 39 = .ok (.iconst 1, 1) := by decide +kernel
theorem dX0_stale_40 : decode cX0_stale 40 = .ok (.iadd, 1) := by decide +kernel
theorem dX0_stale_41 : decode cX0_stale 41 = .ok (.putfield 79, 3) := by decide +kernel
theorem dX0_stale_44 : decode cX0_stale 44 = .ok (.iconst 1, 1) := by decide +kernel
theorem dX0_stale_45 : decode cX0_stale 45 = .ok (.ireturn, 1) := by decide +kernel
theorem dX0_isThere_0 : decode cX0_isThere 0 = .ok (.iload_n 1, 1) := by decide +kernel
theorem dX0_isThere_1 : decode cX0_isThere 1 = .ok (.ifCond .lt 24, 3) := by decide +kernel
theorem dX0_isThere_4 : decode cX0_isThere 4 = .ok (.iload_n 1, 1) := by decide +kernel
theorem dX0_isThere_5 : decode cX0_isThere 5 = .ok (.sipush 600, 3) := by decide +kernel
theorem dX0_isThere_8 : decode cX0_isThere 8 = .ok (.if_icmp .ge 17, 3) := by decide +kernel
theorem dX0_isThere_11 : decode cX0_isThere 11 = .ok (.aload_n 0, 1) := by decide +kernel
theorem dX0_isThere_12 : decode cX0_isThere 12 = .ok (.getfield 16, 3) := by decide +kernel
theorem dX0_isThere_15 : decode cX0_isThere 15 = .ok (.iload_n 1, 1) := by decide +kernel
theorem dX0_isThere_16 : decode cX0_isThere 16 = .ok (.iaload, 1) := by decide +kernel
theorem dX0_isThere_17 : decode cX0_isThere 17 = .ok (.iconst (-1), 1) := by decide +kernel
theorem dX0_isThere_18 : decode cX0_isThere 18 = .ok (.if_icmp .eq 7, 3) := by decide +kernel
theorem dX0_isThere_21 : decode cX0_isThere 21 = .ok (.iconst 1, 1) := by decide +kernel
theorem dX0_isThere_22 : decode cX0_isThere 22 = .ok (.goto 4, 3) := by decide +kernel
theorem dX0_isThere_25 : decode cX0_isThere 25 = .ok (.iconst 0, 1) := by decide +kernel
theorem dX0_isThere_26 : decode cX0_isThere 26 = .ok (.ireturn, 1) := by decide +kernel
theorem dX0_isEnded_0 : decode cX0_isEnded 0 = .ok (.aload_n 0, 1) := by decide +kernel
theorem dX0_isEnded_1 : decode cX0_isEnded 1 = .ok (.getfield 19, 3) := by decide +kernel
theorem dX0_isEnded_4 : decode cX0_isEnded 4 = .ok (.iload_n 1, 1) := by decide +kernel
theorem dX0_isEnded_5 : decode cX0_isEnded 5 = .ok (.iaload, 1) := by decide +kernel
theorem dX0_isEnded_6 : decode cX0_isEnded 6 = .ok (.iconst (-1), 1) := by decide +kernel
theorem dX0_isEnded_7 : decode cX0_isEnded 7 = .ok (.if_icmp .eq 7, 3) := by decide +kernel
theorem dX0_isEnded_10 : decode cX0_isEnded 10 = .ok (.iconst 1, 1) := by decide +kernel
theorem dX0_isEnded_11 : decode cX0_isEnded 11 = .ok (.goto 4, 3) := by decide +kernel
theorem dX0_isEnded_14 : decode cX0_isEnded 14 = .ok (.iconst 0, 1) := by decide +kernel
theorem dX0_isEnded_15 : decode cX0_isEnded 15 = .ok (.ireturn, 1) := by decide +kernel
theorem dX0_resume_0 : decode cX0_resume 0 = .ok (.aload_n 0, 1) := by decide +kernel
theorem dX0_resume_1 : decode cX0_resume 1 = .ok (.invokevirtual 48, 3) := by decide +kernel
theorem dX0_resume_4 : decode cX0_resume 4 = .ok (.iconst 1, 1) := by decide +kernel
theorem dX0_resume_5 : decode cX0_resume 5 = .ok (.if_icmp .eq 20, 3) := by decide +kernel
theorem dX0_resume_8 : decode cX0_resume 8 = .ok (.aload_n 0, 1) := by decide +kernel
theorem dX0_resume_9 : decode cX0_resume 9 = .ok (.invokevirtual 62, 3) := by decide +kernel
theorem dX0_resume_12 : decode cX0_resume 12 = .ok (.iconst (-1), 1) := by decide +kernel
theorem dX0_resume_13 : decode cX0_resume 13 = .ok (.if_icmp .ne 12, 3) := by decide +kernel
theorem dX0_resume_16 : decode cX0_resume 16 = .ok (.aload_n 0, 1) := by decide +kernel
theorem dX0_resume_17 : decode cX0_resume 17 = .ok (.getfield 82, 3) := by decide +kernel
theorem dX0_resume_20 : decode cX0_resume 20 = .ok (.bipush 64, 2) := by decide +kernel
theorem dX0_resume_22 : decode cX0_resume 22 = .ok (.if_icmp .lt 5, 3) := by decide +kernel
theorem dX0_resume_25 : decode cX0_resume 25 = .ok (.iconst (-1), 1) := by decide +kernel
theorem dX0_resume_26 : decode cX0_resume 26 = .ok (.ireturn, 1) := by decide +kernel
theorem dX0_resume_27 : decode cX0_resume 27 = .ok (.aload_n 0, 1) := by decide +kernel
theorem dX0_resume_28 : decode cX0_resume 28 = .ok (.invokevirtual 85, 3) := by decide +kernel
theorem dX0_resume_31 : decode cX0_resume 31 = .ok (.istore_n 1, 1) := by decide +kernel
theorem dX0_resume_32 : decode cX0_resume 32 = .ok (.iload_n 1, 1) := by decide +kernel
theorem dX0_resume_33 : decode cX0_resume 33 = .ok (.iconst (-1), 1) := by decide +kernel
theorem dX0_resume_34 : decode cX0_resume 34 = .ok (.if_icmp .ne 5, 3) := by decide +kernel
theorem dX0_resume_37 : decode cX0_resume 37 = .ok (.iconst (-1), 1) := by decide +kernel
theorem dX0_resume_38 : decode cX0_resume 38 = .ok (.ireturn, 1) := by decide +kernel
theorem dX0_resume_39 : decode cX0_resume 39 = .ok (.aload_n 0, 1) := by decide +kernel
theorem dX0_resume_40 : decode cX0_resume 40 = .ok (.getfield 22, 3) := by decide +kernel
theorem dX0_resume_43 : decode cX0_resume 43 = .ok (.iload_n 1, 1) := by decide +kernel
theorem dX0_resume_44 : decode cX0_resume 44 = .ok (.iconst 0, 1) := by decide +kernel
theorem dX0_resume_45 : decode cX0_resume 45 = .ok (.bastore, 1) := by decide +kernel
theorem dX0_resume_46 : decode cX0_resume 46 = .ok (.aload_n 0, 1) := by decide +kernel
theorem dX0_resume_47 : decode cX0_resume 47 = .ok (.dup, 1) := by decide +kernel
theorem dX0_resume_48 : decode cX0_resume 48 = .ok (.getfield 79, 3) := by decide +kernel
theorem dX0_resume_51 : decode cX0_resume 51 = .ok (.iconst 1, 1) := by decide +kernel
theorem dX0_resume_52 : decode cX0_resume 52 = .ok (.isub, 1) := by decide +kernel
theorem dX0_resume_53 : decode cX0_resume 53 = .ok (.putfield 79, 3) := by decide +kernel
theorem dX0_resume_56 : decode cX0_resume 56 = .ok (.aload_n 0, 1) := by decide +kernel
theorem dX0_resume_57 : decode cX0_resume 57 = .ok (.dup, 1) := by decide +kernel
theorem dX0_resume_58 : decode cX0_resume 58 = .ok (.getfield 66, 3) := by decide +kernel
theorem dX0_resume_61 : decode cX0_resume 61 = .ok (.aload_n 0, 1) := by decide +kernel
theorem dX0_resume_62 : decode cX0_resume 62 = .ok (.getfield 13, 3) := by decide +kernel
theorem dX0_resume_65 : decode cX0_resume 65 = .ok (.iload_n 1, 1) := by decide +kernel
theorem dX0_resume_66 : decode cX0_resume 66 = .ok (.iaload, 1) := by decide +kernel
theorem dX0_resume_67 : decode cX0_resume 67 = .ok (.isub, 1) := by decide +kernel
theorem dX0_resume_68 : decode cX0_resume 68 = .ok (.putfield 66, 3) := by decide +kernel
theorem dX0_resume_71 : decode cX0_resume 71 = .ok (.aload_n 0, 1) := by decide +kernel
theorem dX0_resume_72 : decode cX0_resume 72 = .ok (.getfield 13, 3) := by decide +kernel
theorem dX0_resume_75 : decode cX0_resume 75 = .ok (.iload_n 1, 1) := by decide +kernel
theorem dX0_resume_76 : decode cX0_resume 76 = .ok (.iconst 0, 1) := by decide +kernel
theorem dX0_resume_77 : decode cX0_resume 77 = .ok (.iastore, 1) := by decide +kernel
theorem dX0_resume_78 : decode cX0_resume 78 = .ok (.aload_n 0, 1) := by decide +kernel
theorem dX0_resume_79 : decode cX0_resume 79 = .ok (.iload_n 1, 1) := by decide +kernel
theorem dX0_resume_80 : decode cX0_resume 80 = .ok (.iconst 1, 1) := by decide +kernel
theorem dX0_resume_81 : decode cX0_resume 81 = .ok (.invokevirtual 88, 3) := by decide +kernel
theorem dX0_resume_84 : decode cX0_resume 84 = .ok (.iload_n 1, 1) := by decide +kernel
theorem dX0_resume_85 : decode cX0_resume 85 = .ok (.ireturn, 1) := by decide +kernel
theorem dX0_firstStaleAhead_0 : decode cX0_firstStaleAhead 0 = .ok (.aload_n 0, 1) := by decide +kernel
theorem dX0_firstStaleAhead_1 : decode cX0_firstStaleAhead 1 = .ok (.invokevirtual 127, 3) := by decide +kernel
theorem dX0_firstStaleAhead_4 : decode cX0_firstStaleAhead 4 = .ok (.istore_n 1, 1) := by decide +kernel
theorem dX0_firstStaleAhead_5 : decode cX0_firstStaleAhead 5 = .ok (.aload_n 0, 1) := by decide +kernel
theorem dX0_firstStaleAhead_6 : decode cX0_firstStaleAhead 6 = .ok (.getfield 96, 3) := by decide +kernel
theorem dX0_firstStaleAhead_9 : decode cX0_firstStaleAhead 9 = .ok (.istore_n 2, 1) := by decide +kernel
theorem dX0_firstStaleAhead_10 : decode cX0_firstStaleAhead 10 = .ok (.iload_n 2, 1) := by decide +kernel
theorem dX0_firstStaleAhead_11 : decode cX0_firstStaleAhead 11 = .ok (.iload_n 1, 1) := by decide +kernel
theorem dX0_firstStaleAhead_12 : decode cX0_firstStaleAhead 12 = .ok (.if_icmp .ge 46, 3) := by decide +kernel
theorem dX0_firstStaleAhead_15 : decode cX0_firstStaleAhead 15 = .ok (.aload_n 0, 1) := by decide +kernel
theorem dX0_firstStaleAhead_16 : decode cX0_firstStaleAhead 16 = .ok (.getfield 26, 3) := by decide +kernel
theorem dX0_firstStaleAhead_19 : decode cX0_firstStaleAhead 19 = .ok (.iload_n 2, 1) := by decide +kernel
theorem dX0_firstStaleAhead_20 : decode cX0_firstStaleAhead 20 = .ok (.iaload, 1) := by decide +kernel
theorem dX0_firstStaleAhead_21 : decode cX0_firstStaleAhead 21 = .ok (.invokestatic 130, 3) := by decide +kernel
theorem dX0_firstStaleAhead_24 : decode cX0_firstStaleAhead 24 = .ok (.ifCond .eq 28, 3) := by decide +kernel
theorem dX0_firstStaleAhead_27 : decode cX0_firstStaleAhead 27 = .ok (.aload_n 0, 1) := by decide +kernel
theorem dX0_firstStaleAhead_28 : decode cX0_firstStaleAhead 28 = .ok (.getfield 22, 3) := by decide +kernel
theorem dX0_firstStaleAhead_31 : decode cX0_firstStaleAhead 31 = .ok (.aload_n 0, 1) := by decide +kernel
theorem dX0_firstStaleAhead_32 : decode cX0_firstStaleAhead 32 = .ok (.getfield 26, 3) := by decide +kernel
theorem dX0_firstStaleAhead_35 : decode cX0_firstStaleAhead 35 = .ok (.iload_n 2, 1) := by decide +kernel
theorem dX0_firstStaleAhead_36 : decode cX0_firstStaleAhead 36 = .ok (.iaload, 1) := by decide +kernel
theorem dX0_firstStaleAhead_37 : decode cX0_firstStaleAhead 37 = .ok (.iconst 2, 1) := by decide +kernel
theorem dX0_firstStaleAhead_38 : decode cX0_firstStaleAhead 38 = .ok (.idiv, 1) := by decide +kernel
theorem dX0_firstStaleAhead_39 : decode cX0_firstStaleAhead 39 = .ok (.baload, 1) := by decide +kernel
theorem dX0_firstStaleAhead_40 : decode cX0_firstStaleAhead 40 = .ok (.ifCond .eq 12, 3) := by decide +kernel
theorem dX0_firstStaleAhead_43 : decode cX0_firstStaleAhead 43 = .ok (.aload_n 0, 1) := by decide +kernel
theorem dX0_firstStaleAhead_44 : decode cX0_firstStaleAhead 44 = .ok (.getfield 26, 3) := by decide +kernel
theorem dX0_firstStaleAhead_47 : decode cX0_firstStaleAhead 47 = .ok (.iload_n 2, 1) := by decide +kernel
theorem dX0_firstStaleAhead_48 : decode cX0_firstStaleAhead 48 = .ok (.iaload, 1) := by decide +kernel
theorem dX0_firstStaleAhead_49 : decode cX0_firstStaleAhead 49 = .ok (.iconst 2, 1) := by decide +kernel
theorem dX0_firstStaleAhead_50 : decode cX0_firstStaleAhead 50 = .ok (.idiv, 1) := by decide +kernel
theorem dX0_firstStaleAhead_51 : decode cX0_firstStaleAhead 51 = .ok (.ireturn, 1) := by decide +kernel
theorem dX0_firstStaleAhead_52 : decode cX0_firstStaleAhead 52 = .ok (.iinc 2 1, 3) := by decide +kernel
theorem dX0_firstStaleAhead_55 : decode cX0_firstStaleAhead 55 = .ok (.goto (-45), 3) := by decide +kernel
theorem dX0_firstStaleAhead_58 : decode cX0_firstStaleAhead 58 = .ok (.iconst (-1), 1) := by decide +kernel
theorem dX0_firstStaleAhead_59 : decode cX0_firstStaleAhead 59 = .ok (.ireturn, 1) := by decide +kernel
theorem dX0_aheadUpTo_0 : decode cX0_aheadUpTo 0 = .ok (.aload_n 0, 1) := by decide +kernel
theorem dX0_aheadUpTo_1 : decode cX0_aheadUpTo 1 = .ok (.invokevirtual 69, 3) := by decide +kernel
theorem dX0_aheadUpTo_4 : decode cX0_aheadUpTo 4 = .ok (.istore_n 1, 1) := by decide +kernel
theorem dX0_aheadUpTo_5 : decode cX0_aheadUpTo 5 = .ok (.iload_n 1, 1) := by decide +kernel
theorem dX0_aheadUpTo_6 : decode cX0_aheadUpTo 6 = .ok (.iconst (-1), 1) := by decide +kernel
theorem dX0_aheadUpTo_7 : decode cX0_aheadUpTo 7 = .ok (.if_icmp .ne 10, 3) := by decide +kernel
theorem dX0_aheadUpTo_10 : decode cX0_aheadUpTo 10 = .ok (.aload_n 0, 1) := by decide +kernel
theorem dX0_aheadUpTo_11 : decode cX0_aheadUpTo 11 = .ok (.getfield 106, 3) := by decide +kernel
theorem dX0_aheadUpTo_14 : decode cX0_aheadUpTo 14 = .ok (.goto 9, 3) := by decide +kernel
theorem dX0_aheadUpTo_17 : decode cX0_aheadUpTo 17 = .ok (.aload_n 0, 1) := by decide +kernel
theorem dX0_aheadUpTo_18 : decode cX0_aheadUpTo 18 = .ok (.getfield 19, 3) := by decide +kernel
theorem dX0_aheadUpTo_21 : decode cX0_aheadUpTo 21 = .ok (.iload_n 1, 1) := by decide +kernel
theorem dX0_aheadUpTo_22 : decode cX0_aheadUpTo 22 = .ok (.iaload, 1) := by decide +kernel
theorem dX0_aheadUpTo_23 : decode cX0_aheadUpTo 23 = .ok (.ireturn, 1) := by decide +kernel
theorem dX0_putFrame_0 : decode cX0_putFrame 0 = .ok (.aload_n 0, 1) := by decide +kernel
theorem dX0_putFrame_1 : decode cX0_putFrame 1 = .ok (.getfield 82, 3) := by decide +kernel
theorem dX0_putFrame_4 : decode cX0_putFrame 4 = .ok (.bipush 64, 2) := by decide +kernel
theorem dX0_putFrame_6 : decode cX0_putFrame 6 = .ok (.if_icmp .lt 4, 3) := by decide +kernel
theorem dX0_putFrame_9 : decode cX0_putFrame 9 = .ok (.return_, 1) := by decide +kernel
theorem dX0_putFrame_10 : decode cX0_putFrame 10 = .ok (.aload_n 0, 1) := by decide +kernel
theorem dX0_putFrame_11 : decode cX0_putFrame 11 = .ok (.getfield 29, 3) := by decide +kernel
theorem dX0_putFrame_14 : decode cX0_putFrame 14 = .ok (.aload_n 0, 1) := by decide +kernel
theorem dX0_putFrame_15 : decode cX0_putFrame 15 = .ok (.getfield 82, 3) := by decide +kernel
theorem dX0_putFrame_18 : decode cX0_putFrame 18 = .ok (.iload_n 1, 1) := by decide +kernel
theorem dX0_putFrame_19 : decode cX0_putFrame 19 = .ok (.iastore, 1) := by decide +kernel
theorem dX0_putFrame_20 : decode cX0_putFrame 20 = .ok (.aload_n 0, 1) := by decide +kernel
theorem dX0_putFrame_21 : decode cX0_putFrame 21 = .ok (.getfield 32, 3) := by decide +kernel
theorem dX0_putFrame_24 : decode cX0_putFrame 24 = .ok (.aload_n 0, 1) := by decide +kernel
theorem dX0_putFrame_25 : decode cX0_putFrame 25 = .ok (.getfield 82, 3) := by decide +kernel
theorem dX0_putFrame_28 : decode cX0_putFrame 28 = .ok (.iload_n 2, 1) := by decide +kernel
theorem dX0_putFrame_29 : decode cX0_putFrame 29 = .ok (.iastore, 1) := by decide +kernel
theorem dX0_putFrame_30 : decode cX0_putFrame 30 = .ok (.aload_n 0, 1) := by decide +kernel
theorem dX0_putFrame_31 : decode cX0_putFrame 31 = .ok (.getfield 35, 3) := by decide +kernel
theorem dX0_putFrame_34 : decode cX0_putFrame 34 = .ok (.aload_n 0, 1) := by decide +kernel
theorem dX0_putFrame_35 : decode cX0_putFrame 35 = .ok (.getfield 82, 3) := by decide +kernel
theorem dX0_putFrame_38 : decode cX0_putFrame 38 = .ok (.aload_n 0, 1) := by decide +kernel
theorem dX0_putFrame_39 : decode cX0_putFrame 39 = .ok (.getfield 51, 3) := by decide +kernel
theorem dX0_putFrame_42 : decode cX0_putFrame 42 = .ok (.iastore, 1) := by decide +kernel
theorem dX0_putFrame_43 : decode cX0_putFrame 43 = .ok (.aload_n 0, 1) := by decide +kernel
theorem dX0_putFrame_44 : decode cX0_putFrame 44 = .ok (.dup, 1) := by decide +kernel
theorem dX0_putFrame_45 : decode cX0_putFrame 45 = .ok (.getfield 82, 3) := by decide +kernel
theorem dX0_putFrame_48 : decode cX0_putFrame 48 = .ok (.iconst 1, 1) := by decide +kernel
theorem dX0_putFrame_49 : decode cX0_putFrame 49 = .ok (.iadd, 1) := by decide +kernel
theorem dX0_putFrame_50 : decode cX0_putFrame 50 = .ok (.putfield 82, 3) := by decide +kernel
theorem dX0_putFrame_53 : decode cX0_putFrame 53 = .ok (.aload_n 0, 1) := by decide +kernel
theorem dX0_putFrame_54 : decode cX0_putFrame 54 = .ok (.aload_n 0, 1) := by decide +kernel
theorem dX0_putFrame_55 : decode cX0_putFrame 55 = .ok (.getfield 16, 3) := by decide +kernel
theorem dX0_putFrame_58 : decode cX0_putFrame 58 = .ok (.iload_n 1, 1) := by decide +kernel
theorem dX0_putFrame_59 : decode cX0_putFrame 59 = .ok (.iaload, 1) := by decide +kernel
theorem dX0_putFrame_60 : decode cX0_putFrame 60 = .ok (.iconst 1, 1) := by decide +kernel
theorem dX0_putFrame_61 : decode cX0_putFrame 61 = .ok (.iadd, 1) := by decide +kernel
theorem dX0_putFrame_62 : decode cX0_putFrame 62 = .ok (.putfield 96, 3) := by decide +kernel
theorem dX0_putFrame_65 : decode cX0_putFrame 65 = .ok (.return_, 1) := by decide +kernel
theorem dX0_take_0 : decode cX0_take 0 = .ok (.aload_n 0, 1) := by decide +kernel
theorem dX0_take_1 : decode cX0_take 1 = .ok (.invokevirtual 48, 3) := by decide +kernel
theorem dX0_take_4 : decode cX0_take 4 = .ok (.iconst 1, 1) := by decide +kernel
theorem dX0_take_5 : decode cX0_take 5 = .ok (.if_icmp .ne 12, 3) := by decide +kernel
theorem dX0_take_8 : decode cX0_take 8 = .ok (.aload_n 0, 1) := by decide +kernel
theorem dX0_take_9 : decode cX0_take 9 = .ok (.getfield 82, 3) := by decide +kernel
theorem dX0_take_12 : decode cX0_take 12 = .ok (.bipush 64, 2) := by decide +kernel
theorem dX0_take_14 : decode cX0_take 14 = .ok (.if_icmp .lt 5, 3) := by decide +kernel
theorem dX0_take_17 : decode cX0_take 17 = .ok (.iconst (-1), 1) := by decide +kernel
theorem dX0_take_18 : decode cX0_take 18 = .ok (.ireturn, 1) := by decide +kernel
theorem dX0_take_19 : decode cX0_take 19 = .ok (.aload_n 0, 1) := by decide +kernel
theorem dX0_take_20 : decode cX0_take 20 = .ok (.iload_n 1, 1) := by decide +kernel
theorem dX0_take_21 : decode cX0_take 21 = .ok (.invokevirtual 92, 3) := by decide +kernel
theorem dX0_take_24 : decode cX0_take 24 = .ok (.istore_n 2, 1) := by decide +kernel
theorem dX0_take_25 : decode cX0_take 25 = .ok (.iload_n 2, 1) := by decide +kernel
theorem dX0_take_26 : decode cX0_take 26 = .ok (.iconst (-1), 1) := by decide +kernel
theorem dX0_take_27 : decode cX0_take 27 = .ok (.if_icmp .ne 5, 3) := by decide +kernel
theorem dX0_take_30 : decode cX0_take 30 = .ok (.iconst (-1), 1) := by decide +kernel
theorem dX0_take_31 : decode cX0_take 31 = .ok (.ireturn, 1) := by decide +kernel
theorem dX0_take_32 : decode cX0_take 32 = .ok (.aload_n 0, 1) := by decide +kernel
theorem dX0_take_33 : decode cX0_take 33 = .ok (.aload_n 0, 1) := by decide +kernel
theorem dX0_take_34 : decode cX0_take 34 = .ok (.getfield 96, 3) := by decide +kernel
theorem dX0_take_37 : decode cX0_take 37 = .ok (.aload_n 0, 1) := by decide +kernel
theorem dX0_take_38 : decode cX0_take 38 = .ok (.getfield 16, 3) := by decide +kernel
theorem dX0_take_41 : decode cX0_take 41 = .ok (.iload_n 2, 1) := by decide +kernel
theorem dX0_take_42 : decode cX0_take 42 = .ok (.iaload, 1) := by decide +kernel
theorem dX0_take_43 : decode cX0_take 43 = .ok (.invokevirtual 99, 3) := by decide +kernel
theorem dX0_take_46 : decode cX0_take 46 = .ok (.aload_n 0, 1) := by decide +kernel
theorem dX0_take_47 : decode cX0_take 47 = .ok (.iload_n 2, 1) := by decide +kernel
theorem dX0_take_48 : decode cX0_take 48 = .ok (.iconst 2, 1) := by decide +kernel
theorem dX0_take_49 : decode cX0_take 49 = .ok (.invokevirtual 88, 3) := by decide +kernel
theorem dX0_take_52 : decode cX0_take 52 = .ok (.iload_n 2, 1) := by decide +kernel
theorem dX0_take_53 : decode cX0_take 53 = .ok (.ireturn, 1) := by decide +kernel
theorem dX0_firstFreshAhead_0 : decode cX0_firstFreshAhead 0 = .ok (.aload_n 0, 1) := by decide +kernel
theorem dX0_firstFreshAhead_1 : decode cX0_firstFreshAhead 1 = .ok (.invokevirtual 127, 3) := by decide +kernel
theorem dX0_firstFreshAhead_4 : decode cX0_firstFreshAhead 4 = .ok (.istore_n 2, 1) := by decide +kernel
theorem dX0_firstFreshAhead_5 : decode cX0_firstFreshAhead 5 = .ok (.aload_n 0, 1) := by decide +kernel
theorem dX0_firstFreshAhead_6 : decode cX0_firstFreshAhead 6 = .ok (.getfield 96, 3) := by decide +kernel
theorem dX0_firstFreshAhead_9 : decode cX0_firstFreshAhead 9 = .ok (.istore_n 3, 1) := by decide +kernel
theorem dX0_firstFreshAhead_10 : decode cX0_firstFreshAhead 10 = .ok (.iload_n 3, 1) := by decide +kernel
theorem dX0_firstFreshAhead_11 : decode cX0_firstFreshAhead 11 = .ok (.iload_n 2, 1) := by decide +kernel
theorem dX0_firstFreshAhead_12 : decode cX0_firstFreshAhead 12 = .ok (.if_icmp .ge 87, 3) := by decide +kernel
theorem dX0_firstFreshAhead_15 : decode cX0_firstFreshAhead 15 = .ok (.aload_n 0, 1) := by decide +kernel
theorem dX0_firstFreshAhead_16 : decode cX0_firstFreshAhead 16 = .ok (.getfield 26, 3) := by decide +kernel
theorem dX0_firstFreshAhead_19 : decode cX0_firstFreshAhead 19 = .ok (.iload_n 3, 1) := by decide +kernel
theorem dX0_firstFreshAhead_20 : decode cX0_firstFreshAhead 20 = .ok (.iaload, 1) := by decide +kernel
theorem dX0_firstFreshAhead_21 : decode cX0_firstFreshAhead 21 = .ok (.iconst 2, 1) := by decide +kernel
theorem dX0_firstFreshAhead_22 : decode cX0_firstFreshAhead 22 = .ok (.idiv, 1) := by decide +kernel
theorem dX0_firstFreshAhead_23 : decode cX0_firstFreshAhead 23 = .ok (.istore 4, 2) := by decide +kernel
theorem dX0_firstFreshAhead_25 : decode cX0_firstFreshAhead 25 = .ok (.aload_n 0, 1) := by decide +kernel
theorem dX0_firstFreshAhead_26 : decode cX0_firstFreshAhead 26 = .ok (.getfield 26, 3) := by decide +kernel
theorem dX0_firstFreshAhead_29 : decode cX0_firstFreshAhead 29 = .ok (.iload_n 3, 1) := by decide +kernel
theorem dX0_firstFreshAhead_30 : decode cX0_firstFreshAhead 30 = .ok (.iaload, 1) := by decide +kernel
theorem dX0_firstFreshAhead_31 : decode cX0_firstFreshAhead 31 = .ok (.invokestatic 130, 3) := by decide +kernel
theorem dX0_firstFreshAhead_34 : decode cX0_firstFreshAhead 34 = .ok (.ifCond .eq 28, 3) := by decide +kernel
theorem dX0_firstFreshAhead_37 : decode cX0_firstFreshAhead 37 = .ok (.aload_n 0, 1) := by decide +kernel
theorem dX0_firstFreshAhead_38 : decode cX0_firstFreshAhead 38 = .ok (.getfield 9, 3) := by decide +kernel
theorem dX0_firstFreshAhead_41 : decode cX0_firstFreshAhead 41 = .ok (.iload 4, 2) := by decide +kernel
theorem dX0_firstFreshAhead_43 : decode cX0_firstFreshAhead 43 = .ok (.iaload, 1) := by decide +kernel
theorem dX0_firstFreshAhead_44 : decode cX0_firstFreshAhead 44 = .ok (.iload_n 1, 1) := by decide +kernel
theorem dX0_firstFreshAhead_45 : decode cX0_firstFreshAhead 45 = .ok (.if_icmp .ne 17, 3) := by decide +kernel
theorem dX0_firstFreshAhead_48 : decode cX0_firstFreshAhead 48 = .ok (.aload_n 0, 1) := by decide +kernel
theorem dX0_firstFreshAhead_49 : decode cX0_firstFreshAhead 49 = .ok (.getfield 22, 3) := by decide +kernel
theorem dX0_firstFreshAhead_52 : decode cX0_firstFreshAhead 52 = .ok (.iload 4, 2) := by decide +kernel
theorem dX0_firstFreshAhead_54 : decode cX0_firstFreshAhead 54 = .ok (.baload, 1) := by decide +kernel
theorem dX0_firstFreshAhead_55 : decode cX0_firstFreshAhead 55 = .ok (.ifCond .ne 7, 3) := by decide +kernel
theorem dX0_firstFreshAhead_58 : decode cX0_firstFreshAhead 58 = .ok (.iconst 1, 1) := by decide +kernel
theorem dX0_firstFreshAhead_59 : decode cX0_firstFreshAhead 59 = .ok (.goto 4, 3) := by decide +kernel
theorem dX0_firstFreshAhead_62 : decode cX0_firstFreshAhead 62 = .ok (.iconst 0, 1) := by decide +kernel
theorem dX0_firstFreshAhead_63 : decode cX0_firstFreshAhead 63 = .ok (.istore 5, 2) := by decide +kernel
theorem dX0_firstFreshAhead_65 : decode cX0_firstFreshAhead 65 = .ok (.iload 5, 2) := by decide +kernel
theorem dX0_firstFreshAhead_67 : decode cX0_firstFreshAhead 67 = .ok (.ifCond .eq 26, 3) := by decide +kernel
theorem dX0_firstFreshAhead_70 : decode cX0_firstFreshAhead 70 = .ok (.aload_n 0, 1) := by decide +kernel
theorem dX0_firstFreshAhead_71 : decode cX0_firstFreshAhead 71 = .ok (.iload 4, 2) := by decide +kernel
theorem dX0_firstFreshAhead_73 : decode cX0_firstFreshAhead 73 = .ok (.invokevirtual 76, 3) := by decide +kernel
theorem dX0_firstFreshAhead_76 : decode cX0_firstFreshAhead 76 = .ok (.ifCond .eq 17, 3) := by decide +kernel
theorem dX0_firstFreshAhead_79 : decode cX0_firstFreshAhead 79 = .ok (.aload_n 0, 1) := by decide +kernel
theorem dX0_firstFreshAhead_80 : decode cX0_firstFreshAhead 80 = .ok (.getfield 19, 3) := by decide +kernel
theorem dX0_firstFreshAhead_83 : decode cX0_firstFreshAhead 83 = .ok (.iload 4, 2) := by decide +kernel
theorem dX0_firstFreshAhead_85 : decode cX0_firstFreshAhead 85 = .ok (.iaload, 1) := by decide +kernel
theorem dX0_firstFreshAhead_86 : decode cX0_firstFreshAhead 86 = .ok (.iload_n 2, 1) := by decide +kernel
theorem dX0_firstFreshAhead_87 : decode cX0_firstFreshAhead 87 = .ok (.if_icmp .ge 6, 3) := by decide +kernel
theorem dX0_firstFreshAhead_90 : decode cX0_firstFreshAhead 90 = .ok (.iload 4, 2) := by decide +kernel
theorem dX0_firstFreshAhead_92 : decode cX0_firstFreshAhead 92 = .ok (.ireturn, 1) := by decide +kernel
theorem dX0_firstFreshAhead_93 : decode cX0_firstFreshAhead 93 = .ok (.iinc 3 1, 3) := by decide +kernel
theorem dX0_firstFreshAhead_96 : decode cX0_firstFreshAhead 96 = .ok (.goto (-86), 3) := by decide +kernel
theorem dX0_firstFreshAhead_99 : decode cX0_firstFreshAhead 99 = .ok (.iconst (-1), 1) := by decide +kernel
theorem dX0_firstFreshAhead_100 : decode cX0_firstFreshAhead 100 = .ok (.ireturn, 1) := by decide +kernel
theorem dX0_erase_0 : decode cX0_erase 0 = .ok (.iload_n 1, 1) := by decide +kernel
theorem dX0_erase_1 : decode cX0_erase 1 = .ok (.istore_n 3, 1) := by decide +kernel
theorem dX0_erase_2 : decode cX0_erase 2 = .ok (.iload_n 3, 1) := by decide +kernel
theorem dX0_erase_3 : decode cX0_erase 3 = .ok (.iload_n 2, 1) := by decide +kernel
theorem dX0_erase_4 : decode cX0_erase 4 = .ok (.if_icmp .ge 21, 3) := by decide +kernel
theorem dX0_erase_7 : decode cX0_erase 7 = .ok (.aload_n 0, 1) := by decide +kernel
theorem dX0_erase_8 : decode cX0_erase 8 = .ok (.aload_n 0, 1) := by decide +kernel
theorem dX0_erase_9 : decode cX0_erase 9 = .ok (.getfield 26, 3) := by decide +kernel
theorem dX0_erase_12 : decode cX0_erase 12 = .ok (.iload_n 3, 1) := by decide +kernel
theorem dX0_erase_13 : decode cX0_erase 13 = .ok (.iaload, 1) := by decide +kernel
theorem dX0_erase_14 : decode cX0_erase 14 = .ok (.iconst 2, 1) := by decide +kernel
theorem dX0_erase_15 : decode cX0_erase 15 = .ok (.idiv, 1) := by decide +kernel
theorem dX0_erase_16 : decode cX0_erase 16 = .ok (.invokevirtual 136, 3) := by decide +kernel
theorem dX0_erase_19 : decode cX0_erase 19 = .ok (.iinc 3 1, 3) := by decide +kernel
theorem dX0_erase_22 : decode cX0_erase 22 = .ok (.goto (-20), 3) := by decide +kernel
theorem dX0_erase_25 : decode cX0_erase 25 = .ok (.iconst 0, 1) := by decide +kernel
theorem dX0_erase_26 : decode cX0_erase 26 = .ok (.istore_n 3, 1) := by decide +kernel
theorem dX0_erase_27 : decode cX0_erase 27 = .ok (.iconst 0, 1) := by decide +kernel
theorem dX0_erase_28 : decode cX0_erase 28 = .ok (.istore 4, 2) := by decide +kernel
theorem dX0_erase_30 : decode cX0_erase 30 = .ok (.iload 4, 2) := by decide +kernel
theorem dX0_erase_32 : decode cX0_erase 32 = .ok (.aload_n 0, 1) := by decide +kernel
theorem dX0_erase_33 : decode cX0_erase 33 = .ok (.getfield 106, 3) := by decide +kernel
theorem dX0_erase_36 : decode cX0_erase 36 = .ok (.if_icmp .ge 40, 3) := by decide +kernel
theorem dX0_erase_39 : decode cX0_erase 39 = .ok (.aload_n 0, 1) := by decide +kernel
theorem dX0_erase_40 : decode cX0_erase 40 = .ok (.aload_n 0, 1) := by decide +kernel
theorem dX0_erase_41 : decode cX0_erase 41 = .ok (.getfield 26, 3) := by decide +kernel
theorem dX0_erase_44 : decode cX0_erase 44 = .ok (.iload 4, 2) := by decide +kernel
theorem dX0_erase_46 : decode cX0_erase 46 = .ok (.iaload, 1) := by decide +kernel
theorem dX0_erase_47 : decode cX0_erase 47 = .ok (.iconst 2, 1) := by decide +kernel
theorem dX0_erase_48 : decode cX0_erase 48 = .ok (.idiv, 1) := by decide +kernel
theorem dX0_erase_49 : decode cX0_erase 49 = .ok (.invokevirtual 72, 3) := by decide +kernel
theorem dX0_erase_52 : decode cX0_erase 52 = .ok (.ifCond .eq 18, 3) := by decide +kernel
theorem dX0_erase_55 : decode cX0_erase 55 = .ok (.aload_n 0, 1) := by decide +kernel
theorem dX0_erase_56 : decode cX0_erase 56 = .ok (.aload_n 0, 1) := by decide +kernel
theorem dX0_erase_57 : decode cX0_erase 57 = .ok (.getfield 26, 3) := by decide +kernel
theorem dX0_erase_60 : decode cX0_erase 60 = .ok (.iload 4, 2) := by decide +kernel
theorem dX0_erase_62 : decode cX0_erase 62 = .ok (.iaload, 1) := by decide +kernel
theorem dX0_erase_63 : decode cX0_erase 63 = .ok (.iload_n 3, 1) := by decide +kernel
theorem dX0_erase_64 : decode cX0_erase 64 = .ok (.invokevirtual 133, 3) := by decide +kernel
theorem dX0_erase_67 : decode cX0_erase 67 = .ok (.iinc 3 1, 3) := by decide +kernel
theorem dX0_erase_70 : decode cX0_erase 70 = .ok (.iinc 4 1, 3) := by decide +kernel
theorem dX0_erase_73 : decode cX0_erase 73 = .ok (.goto (-43), 3) := by decide +kernel
theorem dX0_erase_76 : decode cX0_erase 76 = .ok (.aload_n 0, 1) := by decide +kernel
theorem dX0_erase_77 : decode cX0_erase 77 = .ok (.iload_n 3, 1) := by decide +kernel
theorem dX0_erase_78 : decode cX0_erase 78 = .ok (.putfield 106, 3) := by decide +kernel
theorem dX0_erase_81 : decode cX0_erase 81 = .ok (.return_, 1) := by decide +kernel
theorem dX0_forget_0 : decode cX0_forget 0 = .ok (.aload_n 0, 1) := by decide +kernel
theorem dX0_forget_1 : decode cX0_forget 1 = .ok (.iload_n 1, 1) := by decide +kernel
theorem dX0_forget_2 : decode cX0_forget 2 = .ok (.invokevirtual 72, 3) := by decide +kernel
theorem dX0_forget_5 : decode cX0_forget 5 = .ok (.ifCond .ne 4, 3) := by decide +kernel
theorem dX0_forget_8 : decode cX0_forget 8 = .ok (.return_, 1) := by decide +kernel
theorem dX0_forget_9 : decode cX0_forget 9 = .ok (.aload_n 0, 1) := by decide +kernel
theorem dX0_forget_10 : decode cX0_forget 10 = .ok (.getfield 22, 3) := by decide +kernel
theorem dX0_forget_13 : decode cX0_forget 13 = .ok (.iload_n 1, 1) := by decide +kernel
theorem dX0_forget_14 : decode cX0_forget 14 = .ok (.baload, 1) := by decide +kernel
theorem dX0_forget_15 : decode cX0_forget 15 = .ok (.ifCond .eq 13, 3) := by decide +kernel
theorem dX0_forget_18 : decode cX0_forget 18 = .ok (.aload_n 0, 1) := by decide +kernel
theorem dX0_forget_19 : decode cX0_forget 19 = .ok (.dup, 1) := by decide +kernel
theorem dX0_forget_20 : decode cX0_forget 20 = .ok (.getfield 79, 3) := by decide +kernel
theorem dX0_forget_23 : decode cX0_forget 23 = .ok (.iconst 1, 1) := by decide +kernel
theorem dX0_forget_24 : decode cX0_forget 24 = .ok (.isub, 1) := by decide +kernel
theorem dX0_forget_25 : decode cX0_forget 25 = .ok (.putfield 79, 3) := by decide +kernel
theorem dX0_forget_28 : decode cX0_forget 28 = .ok (.aload_n 0, 1) := by decide +kernel
theorem dX0_forget_29 : decode cX0_forget 29 = .ok (.dup, 1) := by decide +kernel
theorem dX0_forget_30 : decode cX0_forget 30 = .ok (.getfield 66, 3) := by decide +kernel
theorem dX0_forget_33 : decode cX0_forget 33 = .ok (.aload_n 0, 1) := by decide +kernel
theorem dX0_forget_34 : decode cX0_forget 34 = .ok (.getfield 13, 3) := by decide +kernel
theorem dX0_forget_37 : decode cX0_forget 37 = .ok (.iload_n 1, 1) := by decide +kernel
theorem dX0_forget_38 : decode cX0_forget 38 = .ok (.iaload, 1) := by decide +kernel
theorem dX0_forget_39 : decode cX0_forget 39 = .ok (.isub, 1) := by decide +kernel
theorem dX0_forget_40 : decode cX0_forget 40 = .ok (.putfield 66, 3) := by decide +kernel
theorem dX0_forget_43 : decode cX0_forget 43 = .ok (.aload_n 0, 1) := by decide +kernel
theorem dX0_forget_44 : decode cX0_forget 44 = .ok (.getfield 16, 3) := by decide +kernel
theorem dX0_forget_47 : decode cX0_forget 47 = .ok (.iload_n 1, 1) := by decide +kernel
theorem dX0_forget_48 : decode cX0_forget 48 = .ok (.iconst (-1), 1) := by decide +kernel
theorem dX0_forget_49 : decode cX0_forget 49 = .ok (.iastore, 1) := by decide +kernel
theorem dX0_forget_50 : decode cX0_forget 50 = .ok (.aload_n 0, 1) := by decide +kernel
theorem dX0_forget_51 : decode cX0_forget 51 = .ok (.dup, 1) := by decide +kernel
theorem dX0_forget_52 : decode cX0_forget 52 = .ok (.getfield 55, 3) := by decide +kernel
theorem dX0_forget_55 : decode cX0_forget 55 = .ok (.iconst 1, 1) := by decide +kernel
theorem dX0_forget_56 : decode cX0_forget 56 = .ok (.isub, 1) := by decide +kernel
theorem dX0_forget_57 : decode cX0_forget 57 = .ok (.putfield 55, 3) := by decide +kernel
theorem dX0_forget_60 : decode cX0_forget 60 = .ok (.return_, 1) := by decide +kernel
theorem dX0_done_0 : decode cX0_done 0 = .ok (.aload_n 0, 1) := by decide +kernel
theorem dX0_done_1 : decode cX0_done 1 = .ok (.invokevirtual 69, 3) := by decide +kernel
theorem dX0_done_4 : decode cX0_done 4 = .ok (.istore_n 1, 1) := by decide +kernel
theorem dX0_done_5 : decode cX0_done 5 = .ok (.iload_n 1, 1) := by decide +kernel
theorem dX0_done_6 : decode cX0_done 6 = .ok (.iconst (-1), 1) := by decide +kernel
theorem dX0_done_7 : decode cX0_done 7 = .ok (.if_icmp .eq 11, 3) := by decide +kernel
theorem dX0_done_10 : decode cX0_done 10 = .ok (.aload_n 0, 1) := by decide +kernel
theorem dX0_done_11 : decode cX0_done 11 = .ok (.invokevirtual 62, 3) := by decide +kernel
theorem dX0_done_14 : decode cX0_done 14 = .ok (.iconst (-1), 1) := by decide +kernel
theorem dX0_done_15 : decode cX0_done 15 = .ok (.if_icmp .eq 5, 3) := by decide +kernel
theorem dX0_done_18 : decode cX0_done 18 = .ok (.iconst (-1), 1) := by decide +kernel
theorem dX0_done_19 : decode cX0_done 19 = .ok (.ireturn, 1) := by decide +kernel
theorem dX0_done_20 : decode cX0_done 20 = .ok (.aload_n 0, 1) := by decide +kernel
theorem dX0_done_21 : decode cX0_done 21 = .ok (.invokevirtual 48, 3) := by decide +kernel
theorem dX0_done_24 : decode cX0_done 24 = .ok (.iconst 1, 1) := by decide +kernel
theorem dX0_done_25 : decode cX0_done 25 = .ok (.if_icmp .ne 17, 3) := by decide +kernel
theorem dX0_done_28 : decode cX0_done 28 = .ok (.aload_n 0, 1) := by decide +kernel
theorem dX0_done_29 : decode cX0_done 29 = .ok (.aload_n 0, 1) := by decide +kernel
theorem dX0_done_30 : decode cX0_done 30 = .ok (.getfield 96, 3) := by decide +kernel
theorem dX0_done_33 : decode cX0_done 33 = .ok (.aload_n 0, 1) := by decide +kernel
theorem dX0_done_34 : decode cX0_done 34 = .ok (.getfield 19, 3) := by decide +kernel
theorem dX0_done_37 : decode cX0_done 37 = .ok (.iload_n 1, 1) := by decide +kernel
theorem dX0_done_38 : decode cX0_done 38 = .ok (.iaload, 1) := by decide +kernel
theorem dX0_done_39 : decode cX0_done 39 = .ok (.invokevirtual 99, 3) := by decide +kernel
theorem dX0_done_42 : decode cX0_done 42 = .ok (.aload_n 0, 1) := by decide +kernel
theorem dX0_done_43 : decode cX0_done 43 = .ok (.dup, 1) := by decide +kernel
theorem dX0_done_44 : decode cX0_done 44 = .ok (.getfield 82, 3) := by decide +kernel
theorem dX0_done_47 : decode cX0_done 47 = .ok (.iconst 1, 1) := by decide +kernel
theorem dX0_done_48 : decode cX0_done 48 = .ok (.isub, 1) := by decide +kernel
theorem dX0_done_49 : decode cX0_done 49 = .ok (.putfield 82, 3) := by decide +kernel
theorem dX0_done_52 : decode cX0_done 52 = .ok (.aload_n 0, 1) := by decide +kernel
theorem dX0_done_53 : decode cX0_done 53 = .ok (.aload_n 0, 1) := by decide +kernel
theorem dX0_done_54 : decode cX0_done 54 = .ok (.getfield 19, 3) := by decide +kernel
theorem dX0_done_57 : decode cX0_done 57 = .ok (.iload_n 1, 1) := by decide +kernel
theorem dX0_done_58 : decode cX0_done 58 = .ok (.iaload, 1) := by decide +kernel
theorem dX0_done_59 : decode cX0_done 59 = .ok (.iconst 1, 1) := by decide +kernel
theorem dX0_done_60 : decode cX0_done 60 = .ok (.iadd, 1) := by decide +kernel
theorem dX0_done_61 : decode cX0_done 61 = .ok (.putfield 96, 3) := by decide +kernel
theorem dX0_done_64 : decode cX0_done 64 = .ok (.iload_n 1, 1) := by decide +kernel
theorem dX0_done_65 : decode cX0_done 65 = .ok (.ireturn, 1) := by decide +kernel
theorem dX0_toEnd_0 : decode cX0_toEnd 0 = .ok (.aload_n 0, 1) := by decide +kernel
theorem dX0_toEnd_1 : decode cX0_toEnd 1 = .ok (.invokevirtual 102, 3) := by decide +kernel
theorem dX0_toEnd_4 : decode cX0_toEnd 4 = .ok (.ifCond .ne 5, 3) := by decide +kernel
theorem dX0_toEnd_7 : decode cX0_toEnd 7 = .ok (.iconst 0, 1) := by decide +kernel
theorem dX0_toEnd_8 : decode cX0_toEnd 8 = .ok (.ireturn, 1) := by decide +kernel
theorem dX0_toEnd_9 : decode cX0_toEnd 9 = .ok (.aload_n 0, 1) := by decide +kernel
theorem dX0_toEnd_10 : decode cX0_toEnd 10 = .ok (.aload_n 0, 1) := by decide +kernel
theorem dX0_toEnd_11 : decode cX0_toEnd 11 = .ok (.getfield 106, 3) := by decide +kernel
theorem dX0_toEnd_14 : decode cX0_toEnd 14 = .ok (.putfield 96, 3) := by decide +kernel
theorem dX0_toEnd_17 : decode cX0_toEnd 17 = .ok (.iconst 1, 1) := by decide +kernel
theorem dX0_toEnd_18 : decode cX0_toEnd 18 = .ok (.ireturn, 1) := by decide +kernel
theorem dX0_mayMove_0 : decode cX0_mayMove 0 = .ok (.aload_n 0, 1) := by decide +kernel
theorem dX0_mayMove_1 : decode cX0_mayMove 1 = .ok (.getfield 82, 3) := by decide +kernel
theorem dX0_mayMove_4 : decode cX0_mayMove 4 = .ok (.iconst 1, 1) := by decide +kernel
theorem dX0_mayMove_5 : decode cX0_mayMove 5 = .ok (.if_icmp .ne 15, 3) := by decide +kernel
theorem dX0_mayMove_8 : decode cX0_mayMove 8 = .ok (.aload_n 0, 1) := by decide +kernel
theorem dX0_mayMove_9 : decode cX0_mayMove 9 = .ok (.invokevirtual 62, 3) := by decide +kernel
theorem dX0_mayMove_12 : decode cX0_mayMove 12 = .ok (.iconst (-1), 1) := by decide +kernel
theorem dX0_mayMove_13 : decode cX0_mayMove 13 = .ok (.if_icmp .ne 7, 3) := by decide +kernel
theorem dX0_mayMove_16 : decode cX0_mayMove 16 = .ok (.iconst 1, 1) := by decide +kernel
theorem dX0_mayMove_17 : decode cX0_mayMove 17 = .ok (.goto 4, 3) := by decide +kernel
theorem dX0_mayMove_20 : decode cX0_mayMove 20 = .ok (.iconst 0, 1) := by decide +kernel
theorem dX0_mayMove_21 : decode cX0_mayMove 21 = .ok (.ireturn, 1) := by decide +kernel
theorem dX0_toBegin_0 : decode cX0_toBegin 0 = .ok (.aload_n 0, 1) := by decide +kernel
theorem dX0_toBegin_1 : decode cX0_toBegin 1 = .ok (.invokevirtual 102, 3) := by decide +kernel
theorem dX0_toBegin_4 : decode cX0_toBegin 4 = .ok (.ifCond .ne 5, 3) := by decide +kernel
theorem dX0_toBegin_7 : decode cX0_toBegin 7 = .ok (.iconst 0, 1) := by decide +kernel
theorem dX0_toBegin_8 : decode cX0_toBegin 8 = .ok (.ireturn, 1) := by decide +kernel
theorem dX0_toBegin_9 : decode cX0_toBegin 9 = .ok (.aload_n 0, 1) := by decide +kernel
theorem dX0_toBegin_10 : decode cX0_toBegin 10 = .ok (.iconst 0, 1) := by decide +kernel
theorem dX0_toBegin_11 : decode cX0_toBegin 11 = .ok (.putfield 96, 3) := by decide +kernel
theorem dX0_toBegin_14 : decode cX0_toBegin 14 = .ok (.iconst 1, 1) := by decide +kernel
theorem dX0_toBegin_15 : decode cX0_toBegin 15 = .ok (.ireturn, 1) := by decide +kernel
theorem dX0_wipe_0 : decode cX0_wipe 0 = .ok (.aload_n 0, 1) := by decide +kernel
theorem dX0_wipe_1 : decode cX0_wipe 1 = .ok (.invokevirtual 41, 3) := by decide +kernel
theorem dX0_wipe_4 : decode cX0_wipe 4 = .ok (.return_, 1) := by decide +kernel
theorem dX0_event_0 : decode cX0_event 0 = .ok (.iload_n 1, 1) := by decide +kernel
theorem dX0_event_1 : decode cX0_event 1 = .ok (.ifCond .lt 20, 3) := by decide +kernel
theorem dX0_event_4 : decode cX0_event 4 = .ok (.iload_n 1, 1) := by decide +kernel
theorem dX0_event_5 : decode cX0_event 5 = .ok (.aload_n 0, 1) := by decide +kernel
theorem dX0_event_6 : decode cX0_event 6 = .ok (.getfield 106, 3) := by decide +kernel
theorem dX0_event_9 : decode cX0_event 9 = .ok (.if_icmp .ge 12, 3) := by decide +kernel
theorem dX0_event_12 : decode cX0_event 12 = .ok (.aload_n 0, 1) := by decide +kernel
theorem dX0_event_13 : decode cX0_event 13 = .ok (.getfield 26, 3) := by decide +kernel
theorem dX0_event_16 : decode cX0_event 16 = .ok (.iload_n 1, 1) := by decide +kernel
theorem dX0_event_17 : decode cX0_event 17 = .ok (.iaload, 1) := by decide +kernel
theorem dX0_event_18 : decode cX0_event 18 = .ok (.goto 4, 3) := by decide +kernel
theorem dX0_event_21 : decode cX0_event 21 = .ok (.iconst (-1), 1) := by decide +kernel
theorem dX0_event_22 : decode cX0_event 22 = .ok (.ireturn, 1) := by decide +kernel
theorem dX0_look_0 : decode cX0_look 0 = .ok (.iload_n 1, 1) := by decide +kernel
theorem dX0_look_1 : decode cX0_look 1 = .ok (.tableswitch 110 0 9 #[55, 60, 65, 70, 75, 80, 85, 90, 95, 100], 55) := by decide +kernel
theorem dX0_look_56 : decode cX0_look 56 = .ok (.aload_n 0, 1) := by decide +kernel
theorem dX0_look_57 : decode cX0_look 57 = .ok (.getfield 55, 3) := by decide +kernel
theorem dX0_look_60 : decode cX0_look 60 = .ok (.ireturn, 1) := by decide +kernel
theorem dX0_look_61 : decode cX0_look 61 = .ok (.aload_n 0, 1) := by decide +kernel
theorem dX0_look_62 : decode cX0_look 62 = .ok (.getfield 106, 3) := by decide +kernel
theorem dX0_look_65 : decode cX0_look 65 = .ok (.ireturn, 1) := by decide +kernel
theorem dX0_look_66 : decode cX0_look 66 = .ok (.aload_n 0, 1) := by decide +kernel
theorem dX0_look_67 : decode cX0_look 67 = .ok (.getfield 96, 3) := by decide +kernel
theorem dX0_look_70 : decode cX0_look 70 = .ok (.ireturn, 1) := by decide +kernel
theorem dX0_look_71 : decode cX0_look 71 = .ok (.aload_n 0, 1) := by decide +kernel
theorem dX0_look_72 : decode cX0_look 72 = .ok (.getfield 82, 3) := by decide +kernel
theorem dX0_look_75 : decode cX0_look 75 = .ok (.ireturn, 1) := by decide +kernel
theorem dX0_look_76 : decode cX0_look 76 = .ok (.aload_n 0, 1) := by decide +kernel
theorem dX0_look_77 : decode cX0_look 77 = .ok (.getfield 66, 3) := by decide +kernel
theorem dX0_look_80 : decode cX0_look 80 = .ok (.ireturn, 1) := by decide +kernel
theorem dX0_look_81 : decode cX0_look 81 = .ok (.aload_n 0, 1) := by decide +kernel
theorem dX0_look_82 : decode cX0_look 82 = .ok (.getfield 79, 3) := by decide +kernel
theorem dX0_look_85 : decode cX0_look 85 = .ok (.ireturn, 1) := by decide +kernel
theorem dX0_look_86 : decode cX0_look 86 = .ok (.aload_n 0, 1) := by decide +kernel
theorem dX0_look_87 : decode cX0_look 87 = .ok (.invokevirtual 69, 3) := by decide +kernel
theorem dX0_look_90 : decode cX0_look 90 = .ok (.ireturn, 1) := by decide +kernel
theorem dX0_look_91 : decode cX0_look 91 = .ok (.aload_n 0, 1) := by decide +kernel
theorem dX0_look_92 : decode cX0_look 92 = .ok (.invokevirtual 62, 3) := by decide +kernel
theorem dX0_look_95 : decode cX0_look 95 = .ok (.ireturn, 1) := by decide +kernel
theorem dX0_look_96 : decode cX0_look 96 = .ok (.aload_n 0, 1) := by decide +kernel
theorem dX0_look_97 : decode cX0_look 97 = .ok (.invokevirtual 48, 3) := by decide +kernel
theorem dX0_look_100 : decode cX0_look 100 = .ok (.ireturn, 1) := by decide +kernel
theorem dX0_look_101 : decode cX0_look 101 = .ok (.aload_n 0, 1) := by decide +kernel
theorem dX0_look_102 : decode cX0_look 102 = .ok (.invokevirtual 127, 3) := by decide +kernel
theorem dX0_look_105 : decode cX0_look 105 = .ok (.aload_n 0, 1) := by decide +kernel
theorem dX0_look_106 : decode cX0_look 106 = .ok (.getfield 96, 3) := by decide +kernel
theorem dX0_look_109 : decode cX0_look 109 = .ok (.isub, 1) := by decide +kernel
theorem dX0_look_110 : decode cX0_look 110 = .ok (.ireturn, 1) := by decide +kernel
theorem dX0_look_111 : decode cX0_look 111 = .ok (.iconst (-1), 1) := by decide +kernel
theorem dX0_look_112 : decode cX0_look 112 = .ok (.ireturn, 1) := by decide +kernel
theorem dX0_of_0 : decode cX0_of 0 = .ok (.aload_n 0, 1) := by decide +kernel
theorem dX0_of_1 : decode cX0_of 1 = .ok (.iload_n 1, 1) := by decide +kernel
theorem dX0_of_2 : decode cX0_of 2 = .ok (.invokevirtual 72, 3) := by decide +kernel
theorem dX0_of_5 : decode cX0_of 5 = .ok (.ifCond .ne 13, 3) := by decide +kernel
theorem dX0_of_8 : decode cX0_of 8 = .ok (.new 109, 3) := by decide +kernel
theorem dX0_of_11 : decode cX0_of 11 = .ok (.dup, 1) := by decide +kernel
theorem dX0_of_12 : decode cX0_of 12 = .ok (.ldc 111, 2) := by decide +kernel
theorem dX0_of_14 : decode cX0_of 14 = .ok (.invokespecial 113, 3) := by decide +kernel
theorem dX0_of_17 : decode cX0_of 17 = .ok (.athrow, 1) := by decide +kernel
theorem dX0_of_18 : decode cX0_of 18 = .ok (.iload_n 2, 1) := by decide +kernel
theorem dX0_of_19 : decode cX0_of 19 = .ok (.tableswitch 87 0 6 #[41, 48, 55, 61, 68, 75, 81], 41) := by decide +kernel
theorem dX0_of_60 : decode cX0_of 60 = .ok (.aload_n 0, 1) := by decide +kernel
theorem dX0_of_61 : decode cX0_of 61 = .ok (.getfield 9, 3) := by decide +kernel
theorem dX0_of_64 : decode cX0_of 64 = .ok (.iload_n 1, 1) := by decide +kernel
theorem dX0_of_65 : decode cX0_of 65 = .ok (.iaload, 1) := by decide +kernel
theorem dX0_of_66 : decode cX0_of 66 = .ok (.ireturn, 1) := by decide +kernel
theorem dX0_of_67 : decode cX0_of 67 = .ok (.aload_n 0, 1) := by decide +kernel
theorem dX0_of_68 : decode cX0_of 68 = .ok (.getfield 13, 3) := by decide +kernel
theorem dX0_of_71 : decode cX0_of 71 = .ok (.iload_n 1, 1) := by decide +kernel
theorem dX0_of_72 : decode cX0_of 72 = .ok (.iaload, 1) := by decide +kernel
theorem dX0_of_73 : decode cX0_of 73 = .ok (.ireturn, 1) := by decide +kernel
theorem dX0_of_74 : decode cX0_of 74 = .ok (.aload_n 0, 1) := by decide +kernel
theorem dX0_of_75 : decode cX0_of 75 = .ok (.iload_n 1, 1) := by decide +kernel
theorem dX0_of_76 : decode cX0_of 76 = .ok (.invokevirtual 116, 3) := by decide +kernel
theorem dX0_of_79 : decode cX0_of 79 = .ok (.ireturn, 1) := by decide +kernel
theorem dX0_of_80 : decode cX0_of 80 = .ok (.aload_n 0, 1) := by decide +kernel
theorem dX0_of_81 : decode cX0_of 81 = .ok (.getfield 16, 3) := by decide +kernel
theorem dX0_of_84 : decode cX0_of 84 = .ok (.iload_n 1, 1) := by decide +kernel
theorem dX0_of_85 : decode cX0_of 85 = .ok (.iaload, 1) := by decide +kernel
theorem dX0_of_86 : decode cX0_of 86 = .ok (.ireturn, 1) := by decide +kernel
theorem dX0_of_87 : decode cX0_of 87 = .ok (.aload_n 0, 1) := by decide +kernel
theorem dX0_of_88 : decode cX0_of 88 = .ok (.getfield 19, 3) := by decide +kernel
theorem dX0_of_91 : decode cX0_of 91 = .ok (.iload_n 1, 1) := by decide +kernel
theorem dX0_of_92 : decode cX0_of 92 = .ok (.iaload, 1) := by decide +kernel
theorem dX0_of_93 : decode cX0_of 93 = .ok (.ireturn, 1) := by decide +kernel
theorem dX0_of_94 : decode cX0_of 94 = .ok (.aload_n 0, 1) := by decide +kernel
theorem dX0_of_95 : decode cX0_of 95 = .ok (.iload_n 1, 1) := by decide +kernel
theorem dX0_of_96 : decode cX0_of 96 = .ok (.invokevirtual 119, 3) := by decide +kernel
theorem dX0_of_99 : decode cX0_of 99 = .ok (.ireturn, 1) := by decide +kernel
theorem dX0_of_100 : decode cX0_of 100 = .ok (.aload_n 0, 1) := by decide +kernel
theorem dX0_of_101 : decode cX0_of 101 = .ok (.iload_n 1, 1) := by decide +kernel
theorem dX0_of_102 : decode cX0_of 102 = .ok (.invokevirtual 122, 3) := by decide +kernel
theorem dX0_of_105 : decode cX0_of 105 = .ok (.ireturn, 1) := by decide +kernel
theorem dX0_of_106 : decode cX0_of 106 = .ok (.new 109, 3) := by decide +kernel
theorem dX0_of_109 : decode cX0_of 109 = .ok (.dup, 1) := by decide +kernel
theorem dX0_of_110 : decode cX0_of 110 = .ok (.ldc 125, 2) := by decide +kernel
theorem dX0_of_112 : decode cX0_of 112 = .ok (.invokespecial 113, 3) := by decide +kernel
theorem dX0_of_115 : decode cX0_of 115 = .ok (.athrow, 1) := by decide +kernel
theorem dX0_stateOf_0 : decode cX0_stateOf 0 = .ok (.aload_n 0, 1) := by decide +kernel
theorem dX0_stateOf_1 : decode cX0_stateOf 1 = .ok (.iload_n 1, 1) := by decide +kernel
theorem dX0_stateOf_2 : decode cX0_stateOf 2 = .ok (.invokevirtual 76, 3) := by decide +kernel
theorem dX0_stateOf_5 : decode cX0_stateOf 5 = .ok (.ifCond .ne 5, 3) := by decide +kernel
theorem dX0_stateOf_8 : decode cX0_stateOf 8 = .ok (.iconst 0, 1) := by decide +kernel
theorem dX0_stateOf_9 : decode cX0_stateOf 9 = .ok (.ireturn, 1) := by decide +kernel
theorem dX0_stateOf_10 : decode cX0_stateOf 10 = .ok (.aload_n 0, 1) := by decide +kernel
theorem dX0_stateOf_11 : decode cX0_stateOf 11 = .ok (.getfield 22, 3) := by decide +kernel
theorem dX0_stateOf_14 : decode cX0_stateOf 14 = .ok (.iload_n 1, 1) := by decide +kernel
theorem dX0_stateOf_15 : decode cX0_stateOf 15 = .ok (.baload, 1) := by decide +kernel
theorem dX0_stateOf_16 : decode cX0_stateOf 16 = .ok (.ifCond .eq 7, 3) := by decide +kernel
theorem dX0_stateOf_19 : decode cX0_stateOf 19 = .ok (.iconst 2, 1) := by decide +kernel
theorem dX0_stateOf_20 : decode cX0_stateOf 20 = .ok (.goto 4, 3) := by decide +kernel
theorem dX0_stateOf_23 : decode cX0_stateOf 23 = .ok (.iconst 1, 1) := by decide +kernel
theorem dX0_stateOf_24 : decode cX0_stateOf 24 = .ok (.ireturn, 1) := by decide +kernel
theorem dX0_innermostAround_0 : decode cX0_innermostAround 0 = .ok (.aload_n 0, 1) := by decide +kernel
theorem dX0_innermostAround_1 : decode cX0_innermostAround 1 = .ok (.getfield 16, 3) := by decide +kernel
theorem dX0_innermostAround_4 : decode cX0_innermostAround 4 = .ok (.iload_n 1, 1) := by decide +kernel
theorem dX0_innermostAround_5 : decode cX0_innermostAround 5 = .ok (.iaload, 1) := by decide +kernel
theorem dX0_innermostAround_6 : decode cX0_innermostAround 6 = .ok (.iconst 1, 1) := by decide +kernel
theorem dX0_innermostAround_7 : decode cX0_innermostAround 7 = .ok (.isub, 1) := by decide +kernel
theorem dX0_innermostAround_8 : decode cX0_innermostAround 8 = .ok (.istore_n 2, 1) := by decide +kernel
theorem dX0_innermostAround_9 : decode cX0_innermostAround 9 = .ok (.iload_n 2, 1) := by decide +kernel
theorem dX0_innermostAround_10 : decode cX0_innermostAround 10 = .ok (.ifCond .lt 55, 3) := by decide +kernel
theorem dX0_innermostAround_13 : decode cX0_innermostAround 13 = .ok (.aload_n 0, 1) := by decide +kernel
theorem dX0_innermostAround_14 : decode cX0_innermostAround 14 = .ok (.getfield 26, 3) := by decide +kernel
theorem dX0_innermostAround_17 : decode cX0_innermostAround 17 = .ok (.iload_n 2, 1) := by decide +kernel
theorem dX0_innermostAround_18 : decode cX0_innermostAround 18 = .ok (.iaload, 1) := by decide +kernel
theorem dX0_innermostAround_19 : decode cX0_innermostAround 19 = .ok (.iconst 2, 1) := by decide +kernel
theorem dX0_innermostAround_20 : decode cX0_innermostAround 20 = .ok (.idiv, 1) := by decide +kernel
theorem dX0_innermostAround_21 : decode cX0_innermostAround 21 = .ok (.istore_n 3, 1) := by decide +kernel
theorem dX0_innermostAround_22 : decode cX0_innermostAround 22 = .ok (.aload_n 0, 1) := by decide +kernel
theorem dX0_innermostAround_23 : decode cX0_innermostAround 23 = .ok (.getfield 26, 3) := by decide +kernel
theorem dX0_innermostAround_26 : decode cX0_innermostAround 26 = .ok (.iload_n 2, 1) := by decide +kernel
theorem dX0_innermostAround_27 : decode cX0_innermostAround 27 = .ok (.iaload, 1) := by decide +kernel
theorem dX0_innermostAround_28 : decode cX0_innermostAround 28 = .ok (.invokestatic 130, 3) := by decide +kernel
theorem dX0_innermostAround_31 : decode cX0_innermostAround 31 = .ok (.ifCond .eq 28, 3) := by decide +kernel
theorem dX0_innermostAround_34 : decode cX0_innermostAround 34 = .ok (.aload_n 0, 1) := by decide +kernel
theorem dX0_innermostAround_35 : decode cX0_innermostAround 35 = .ok (.iload_n 3, 1) := by decide +kernel
theorem dX0_innermostAround_36 : decode cX0_innermostAround 36 = .ok (.invokevirtual 76, 3) := by decide +kernel
theorem dX0_innermostAround_39 : decode cX0_innermostAround 39 = .ok (.ifCond .eq 18, 3) := by decide +kernel
theorem dX0_innermostAround_42 : decode cX0_innermostAround 42 = .ok (.aload_n 0, 1) := by decide +kernel
theorem dX0_innermostAround_43 : decode cX0_innermostAround 43 = .ok (.getfield 19, 3) := by decide +kernel
theorem dX0_innermostAround_46 : decode cX0_innermostAround 46 = .ok (.iload_n 3, 1) := by decide +kernel
theorem dX0_innermostAround_47 : decode cX0_innermostAround 47 = .ok (.iaload, 1) := by decide +kernel
theorem dX0_innermostAround_48 : decode cX0_innermostAround 48 = .ok (.aload_n 0, 1) := by decide +kernel
theorem dX0_innermostAround_49 : decode cX0_innermostAround 49 = .ok (.getfield 16, 3) := by decide +kernel
theorem dX0_innermostAround_52 : decode cX0_innermostAround 52 = .ok (.iload_n 1, 1) := by decide +kernel
theorem dX0_innermostAround_53 : decode cX0_innermostAround 53 = .ok (.iaload, 1) := by decide +kernel
theorem dX0_innermostAround_54 : decode cX0_innermostAround 54 = .ok (.if_icmp .le 5, 3) := by decide +kernel
theorem dX0_innermostAround_57 : decode cX0_innermostAround 57 = .ok (.iload_n 3, 1) := by decide +kernel
theorem dX0_innermostAround_58 : decode cX0_innermostAround 58 = .ok (.ireturn, 1) := by decide +kernel
theorem dX0_innermostAround_59 : decode cX0_innermostAround 59 = .ok (.iinc 2 (-1), 3) := by decide +kernel
theorem dX0_innermostAround_62 : decode cX0_innermostAround 62 = .ok (.goto (-53), 3) := by decide +kernel
theorem dX0_innermostAround_65 : decode cX0_innermostAround 65 = .ok (.iconst (-1), 1) := by decide +kernel
theorem dX0_innermostAround_66 : decode cX0_innermostAround 66 = .ok (.ireturn, 1) := by decide +kernel
theorem dX0_weightWithin_0 : decode cX0_weightWithin 0 = .ok (.aload_n 0, 1) := by decide +kernel
theorem dX0_weightWithin_1 : decode cX0_weightWithin 1 = .ok (.iload_n 1, 1) := by decide +kernel
theorem dX0_weightWithin_2 : decode cX0_weightWithin 2 = .ok (.invokevirtual 76, 3) := by decide +kernel
theorem dX0_weightWithin_5 : decode cX0_weightWithin 5 = .ok (.ifCond .eq 12, 3) := by decide +kernel
theorem dX0_weightWithin_8 : decode cX0_weightWithin 8 = .ok (.aload_n 0, 1) := by decide +kernel
theorem dX0_weightWithin_9 : decode cX0_weightWithin 9 = .ok (.getfield 19, 3) := by decide +kernel
theorem dX0_weightWithin_12 : decode cX0_weightWithin 12 = .ok (.iload_n 1, 1) := by decide +kernel
theorem dX0_weightWithin_13 : decode cX0_weightWithin 13 = .ok (.iaload, 1) := by decide +kernel
theorem dX0_weightWithin_14 : decode cX0_weightWithin 14 = .ok (.goto 7, 3) := by decide +kernel
theorem dX0_weightWithin_17 : decode cX0_weightWithin 17 = .ok (.aload_n 0, 1) := by decide +kernel
theorem dX0_weightWithin_18 : decode cX0_weightWithin 18 = .ok (.getfield 106, 3) := by decide +kernel
theorem dX0_weightWithin_21 : decode cX0_weightWithin 21 = .ok (.istore_n 2, 1) := by decide +kernel
theorem dX0_weightWithin_22 : decode cX0_weightWithin 22 = .ok (.iconst 0, 1) := by decide +kernel
theorem dX0_weightWithin_23 : decode cX0_weightWithin 23 = .ok (.istore_n 3, 1) := by decide +kernel
theorem dX0_weightWithin_24 : decode cX0_weightWithin 24 = .ok (.aload_n 0, 1) := by decide +kernel
theorem dX0_weightWithin_25 : decode cX0_weightWithin 25 = .ok (.getfield 16, 3) := by decide +kernel
theorem dX0_weightWithin_28 : decode cX0_weightWithin 28 = .ok (.iload_n 1, 1) := by decide +kernel
theorem dX0_weightWithin_29 : decode cX0_weightWithin 29 = .ok (.iaload, 1) := by decide +kernel
theorem dX0_weightWithin_30 : decode cX0_weightWithin 30 = .ok (.istore 4, 2) := by decide +kernel
theorem dX0_weightWithin_32 : decode cX0_weightWithin 32 = .ok (.iload 4, 2) := by decide +kernel
theorem dX0_weightWithin_34 : decode cX0_weightWithin 34 = .ok (.iload_n 2, 1) := by decide +kernel
theorem dX0_weightWithin_35 : decode cX0_weightWithin 35 = .ok (.if_icmp .ge 39, 3) := by decide +kernel
theorem dX0_weightWithin_38 : decode cX0_weightWithin 38 = .ok (.aload_n 0, 1) := by decide +kernel
theorem dX0_weightWithin_39 : decode cX0_weightWithin 39 = .ok (.getfield 26, 3) := by decide +kernel
theorem dX0_weightWithin_42 : decode cX0_weightWithin 42 = .ok (.iload 4, 2) := by decide +kernel
theorem dX0_weightWithin_44 : decode cX0_weightWithin 44 = .ok (.iaload, 1) := by decide +kernel
theorem dX0_weightWithin_45 : decode cX0_weightWithin 45 = .ok (.invokestatic 130, 3) := by decide +kernel
theorem dX0_weightWithin_48 : decode cX0_weightWithin 48 = .ok (.ifCond .eq 20, 3) := by decide +kernel
theorem dX0_weightWithin_51 : decode cX0_weightWithin 51 = .ok (.iload_n 3, 1) := by decide +kernel
theorem dX0_weightWithin_52 : decode cX0_weightWithin 52 = .ok (.aload_n 0, 1) := by decide +kernel
theorem dX0_weightWithin_53 : decode cX0_weightWithin 53 = .ok (.getfield 13, 3) := by decide +kernel
theorem dX0_weightWithin_56 : decode cX0_weightWithin 56 = .ok (.aload_n 0, 1) := by decide +kernel
theorem dX0_weightWithin_57 : decode cX0_weightWithin 57 = .ok (.getfield 26, 3) := by decide +kernel
theorem dX0_weightWithin_60 : decode cX0_weightWithin 60 = .ok (.iload 4, 2) := by decide +kernel
theorem dX0_weightWithin_62 : decode cX0_weightWithin 62 = .ok (.iaload, 1) := by decide +kernel
theorem dX0_weightWithin_63 : decode cX0_weightWithin 63 = .ok (.iconst 2, 1) := by decide +kernel
theorem dX0_weightWithin_64 : decode cX0_weightWithin 64 = .ok (.idiv, 1) := by decide +kernel
theorem dX0_weightWithin_65 : decode cX0_weightWithin 65 = .ok (.iaload, 1) := by decide +kernel
theorem dX0_weightWithin_66 : decode cX0_weightWithin 66 = .ok (.iadd, 1) := by decide +kernel
theorem dX0_weightWithin_67 : decode cX0_weightWithin 67 = .ok (.istore_n 3, 1) := by decide +kernel
theorem dX0_weightWithin_68 : decode cX0_weightWithin 68 = .ok (.iinc 4 1, 3) := by decide +kernel
theorem dX0_weightWithin_71 : decode cX0_weightWithin 71 = .ok (.goto (-39), 3) := by decide +kernel
theorem dX0_weightWithin_74 : decode cX0_weightWithin 74 = .ok (.iload_n 3, 1) := by decide +kernel
theorem dX0_weightWithin_75 : decode cX0_weightWithin 75 = .ok (.ireturn, 1) := by decide +kernel
def RX1 : String := "TraceLineModel"
def TX1 : u_T := fun k => match k with
  | 0 => ("TraceLineModel", "thrown", "I", false)
  | 1 => ("TraceLineModel", "there", "[Z", true)
  | 2 => ("TraceLineModel", "keys", "[I", true)
  | 3 => ("TraceLineModel", "weights", "[I", true)
  | 4 => ("TraceLineModel", "isStale", "[Z", true)
  | 5 => ("TraceLineModel", "many", "I", false)
  | 6 => ("TraceLineModel", "whole", "I", false)
  | 7 => ("TraceLineModel", "line", "[I", true)
  | 8 => ("TraceLineModel", "events", "I", false)
  | 9 => ("TraceLineModel", "cursor", "I", false)
  | 10 => ("TraceLineModel", "frames", "I", false)
  | 11 => ("TraceLineModel", "frameOf", "[I", true)
  | 12 => ("TraceLineModel", "taken", "[Z", true)
  | 13 => ("TraceLineModel", "opens", "I", false)
  | 14 => ("TraceLineModel", "open", "[I", true)
  | 15 => ("TraceLineModel", "openIn", "[I", true)
  | _ => ("TraceLineModel", "goes", "[Z", true)
def tyX1 : Nat → FieldType := fun k => match k with
  | 0 => .int
  | 1 => .array .boolean
  | 2 => .array .int
  | 3 => .array .int
  | 4 => .array .boolean
  | 5 => .int
  | 6 => .int
  | 7 => .array .int
  | 8 => .int
  | 9 => .int
  | 10 => .int
  | 11 => .array .int
  | 12 => .array .boolean
  | 13 => .int
  | 14 => .array .int
  | 15 => .array .int
  | _ => .array .boolean
abbrev wsX10 : List Cond := u_ws RX1 TX1 17
theorem nmX1 : ∀ a, a < 17 → ∀ b, b < 17 → a ≠ b → (TX1 a).2.1 ≠ (TX1 b).2.1 := by decide +kernel
theorem tyX1_ok : ∀ k, k < 17 → parseFieldDescriptor (TX1 k).2.2.1 = some (tyX1 k) := by decide +kernel
abbrev cX1_init : ByteArray := prog_3_method_1_code
def yX1_init : MethodName := ⟨RX1, "<init>", "()V"⟩
abbrev cX1_thrown : ByteArray := prog_3_method_2_code
def yX1_thrown : MethodName := ⟨RX1, "thrown", "()I"⟩
abbrev cX1_begin : ByteArray := prog_3_method_12_code
def yX1_begin : MethodName := ⟨RX1, "begin", "(I)I"⟩
abbrev cX1_last : ByteArray := prog_3_method_7_code
def yX1_last : MethodName := ⟨RX1, "last", "()I"⟩
abbrev cX1_put : ByteArray := prog_3_method_4_code
def yX1_put : MethodName := ⟨RX1, "put", "(I)V"⟩
abbrev cX1_end : ByteArray := prog_3_method_13_code
def yX1_end : MethodName := ⟨RX1, "end", "()I"⟩
abbrev cX1_hasOpen : ByteArray := prog_3_method_10_code
def yX1_hasOpen : MethodName := ⟨RX1, "hasOpen", "()Z"⟩
abbrev cX1_weigh : ByteArray := prog_3_method_15_code
def yX1_weigh : MethodName := ⟨RX1, "weigh", "(I)Z"⟩
abbrev cX1_allWeights : ByteArray := prog_3_method_14_code
def yX1_allWeights : MethodName := ⟨RX1, "allWeights", "()J"⟩
abbrev cX1_stale : ByteArray := prog_3_method_16_code
def yX1_stale : MethodName := ⟨RX1, "stale", "(I)Z"⟩
abbrev cX1_isThere : ByteArray := prog_3_method_5_code
def yX1_isThere : MethodName := ⟨RX1, "isThere", "(I)Z"⟩
abbrev cX1_isEnded : ByteArray := prog_3_method_6_code
def yX1_isEnded : MethodName := ⟨RX1, "isEnded", "(I)Z"⟩
abbrev cX1_find : ByteArray := prog_3_method_3_code
def yX1_find : MethodName := ⟨RX1, "find", "(I)I"⟩
abbrev cX1_resume : ByteArray := prog_3_method_18_code
def yX1_resume : MethodName := ⟨RX1, "resume", "()I"⟩
abbrev cX1_limit : ByteArray := prog_3_method_8_code
def yX1_limit : MethodName := ⟨RX1, "limit", "()I"⟩
abbrev cX1_frame : ByteArray := prog_3_method_17_code
def yX1_frame : MethodName := ⟨RX1, "frame", "(IZ)V"⟩
abbrev cX1_take : ByteArray := prog_3_method_19_code
def yX1_take : MethodName := ⟨RX1, "take", "(I)I"⟩
abbrev cX1_isAhead : ByteArray := prog_3_method_9_code
def yX1_isAhead : MethodName := ⟨RX1, "isAhead", "(I)Z"⟩
abbrev cX1_erase : ByteArray := prog_3_method_11_code
def yX1_erase : MethodName := ⟨RX1, "erase", "(II)V"⟩
abbrev cX1_done : ByteArray := prog_3_method_20_code
def yX1_done : MethodName := ⟨RX1, "done", "()I"⟩
abbrev cX1_toEnd : ByteArray := prog_3_method_22_code
def yX1_toEnd : MethodName := ⟨RX1, "toEnd", "()Z"⟩
abbrev cX1_isFree : ByteArray := prog_3_method_21_code
def yX1_isFree : MethodName := ⟨RX1, "isFree", "()Z"⟩
abbrev cX1_toBegin : ByteArray := prog_3_method_23_code
def yX1_toBegin : MethodName := ⟨RX1, "toBegin", "()Z"⟩
abbrev cX1_wipe : ByteArray := prog_3_method_24_code
def yX1_wipe : MethodName := ⟨RX1, "wipe", "()V"⟩
abbrev cX1_of : ByteArray := prog_3_method_28_code
def yX1_of : MethodName := ⟨RX1, "of", "(II)I"⟩
abbrev cX1_around : ByteArray := prog_3_method_26_code
def yX1_around : MethodName := ⟨RX1, "around", "(I)I"⟩
abbrev cX1_endOf : ByteArray := prog_3_method_25_code
def yX1_endOf : MethodName := ⟨RX1, "endOf", "(I)I"⟩
abbrev cX1_sumOf : ByteArray := prog_3_method_27_code
def yX1_sumOf : MethodName := ⟨RX1, "sumOf", "(I)I"⟩
abbrev cX1_event : ByteArray := prog_3_method_29_code
def yX1_event : MethodName := ⟨RX1, "event", "(I)I"⟩
abbrev cX1_look : ByteArray := prog_3_method_30_code
def yX1_look : MethodName := ⟨RX1, "look", "(I)I"⟩
def wM_r0 : List Cond := [Cond.instanceMethod yX1_init, Cond.code yX1_init cX1_init 1 none, Cond.methodLink RX1 1 objectInit, Cond.fieldLink RX1 45 "TraceLineModel" "thrown" "I", Cond.fieldLink RX1 7 "TraceLineModel" "there" "[Z", Cond.fieldLink RX1 13 "TraceLineModel" "keys" "[I", Cond.fieldLink RX1 17 "TraceLineModel" "weights" "[I", Cond.fieldLink RX1 20 "TraceLineModel" "isStale" "[Z", Cond.fieldLink RX1 68 "TraceLineModel" "many" "I", Cond.fieldLink RX1 79 "TraceLineModel" "whole" "I", Cond.fieldLink RX1 23 "TraceLineModel" "line" "[I", Cond.fieldLink RX1 48 "TraceLineModel" "events" "I", Cond.fieldLink RX1 51 "TraceLineModel" "cursor" "I", Cond.fieldLink RX1 26 "TraceLineModel" "frames" "I", Cond.fieldLink RX1 30 "TraceLineModel" "frameOf" "[I", Cond.fieldLink RX1 33 "TraceLineModel" "taken" "[Z", Cond.fieldLink RX1 65 "TraceLineModel" "opens" "I", Cond.fieldLink RX1 36 "TraceLineModel" "open" "[I", Cond.fieldLink RX1 39 "TraceLineModel" "openIn" "[I", Cond.fieldLink RX1 42 "TraceLineModel" "goes" "[Z", Cond.instanceMethod yX1_thrown, Cond.selects RX1 yX1_thrown yX1_thrown, Cond.code yX1_thrown cX1_thrown 1 (some .int), Cond.instanceMethod yX1_begin]
def wM_r1 : List Cond := [Cond.selects RX1 yX1_begin yX1_begin, Cond.code yX1_begin cX1_begin 3 (some .int), Cond.methodLink RX1 58 yX1_last, Cond.instanceMethod yX1_last, Cond.code yX1_last cX1_last 1 (some .int), Cond.methodLink RX1 71 yX1_put, Cond.instanceMethod yX1_put, Cond.code yX1_put cX1_put 3 none, Cond.instanceMethod yX1_end, Cond.selects RX1 yX1_end yX1_end, Cond.code yX1_end cX1_end 1 (some .int), Cond.methodLink RX1 75 yX1_hasOpen, Cond.instanceMethod yX1_hasOpen, Cond.code yX1_hasOpen cX1_hasOpen 1 (some .boolean), Cond.instanceMethod yX1_weigh, Cond.selects RX1 yX1_weigh yX1_weigh, Cond.code yX1_weigh cX1_weigh 3 (some .boolean), Cond.methodLink RX1 82 yX1_allWeights, Cond.instanceMethod yX1_allWeights, Cond.code yX1_allWeights cX1_allWeights 4 (some .long), Cond.constantLong RX1 86 1000000000, Cond.instanceMethod yX1_stale, Cond.selects RX1 yX1_stale yX1_stale, Cond.code yX1_stale cX1_stale 2 (some .boolean)]
def wM_r2 : List Cond := [Cond.methodLink RX1 88 yX1_isThere, Cond.instanceMethod yX1_isThere, Cond.code yX1_isThere cX1_isThere 2 (some .boolean), Cond.methodLink RX1 92 yX1_isEnded, Cond.instanceMethod yX1_isEnded, Cond.code yX1_isEnded cX1_isEnded 2 (some .boolean), Cond.methodLink RX1 54 yX1_find, Cond.instanceMethod yX1_find, Cond.code yX1_find cX1_find 3 (some .int), Cond.instanceMethod yX1_resume, Cond.selects RX1 yX1_resume yX1_resume, Cond.code yX1_resume cX1_resume 5 (some .int), Cond.methodLink RX1 62 yX1_limit, Cond.instanceMethod yX1_limit, Cond.code yX1_limit cX1_limit 1 (some .int), Cond.methodLink RX1 95 yX1_frame, Cond.instanceMethod yX1_frame, Cond.code yX1_frame cX1_frame 3 none, Cond.instanceMethod yX1_take, Cond.selects RX1 yX1_take yX1_take, Cond.code yX1_take cX1_take 5 (some .int), Cond.methodLink RX1 99 yX1_isAhead, Cond.instanceMethod yX1_isAhead, Cond.code yX1_isAhead cX1_isAhead 2 (some .boolean)]
def wM_r3 : List Cond := [Cond.methodLink RX1 102 yX1_erase, Cond.instanceMethod yX1_erase, Cond.code yX1_erase cX1_erase 6 none, Cond.instanceMethod yX1_done, Cond.selects RX1 yX1_done yX1_done, Cond.code yX1_done cX1_done 2 (some .int), Cond.instanceMethod yX1_toEnd, Cond.selects RX1 yX1_toEnd yX1_toEnd, Cond.code yX1_toEnd cX1_toEnd 1 (some .boolean), Cond.methodLink RX1 106 yX1_isFree, Cond.instanceMethod yX1_isFree, Cond.code yX1_isFree cX1_isFree 1 (some .boolean), Cond.instanceMethod yX1_toBegin, Cond.selects RX1 yX1_toBegin yX1_toBegin, Cond.code yX1_toBegin cX1_toBegin 1 (some .boolean), Cond.instanceMethod yX1_wipe, Cond.selects RX1 yX1_wipe yX1_wipe, Cond.code yX1_wipe cX1_wipe 2 none, Cond.instanceMethod yX1_of, Cond.selects RX1 yX1_of yX1_of, Cond.code yX1_of cX1_of 3 (some .int), Cond.methodLink RX1 112 yX1_around, Cond.instanceMethod yX1_around, Cond.code yX1_around cX1_around 5 (some .int)]
def wM_r4 : List Cond := [Cond.methodLink RX1 109 yX1_endOf, Cond.instanceMethod yX1_endOf, Cond.code yX1_endOf cX1_endOf 3 (some .int), Cond.methodLink RX1 115 yX1_sumOf, Cond.instanceMethod yX1_sumOf, Cond.code yX1_sumOf cX1_sumOf 4 (some .int), Cond.instanceMethod yX1_event, Cond.selects RX1 yX1_event yX1_event, Cond.code yX1_event cX1_event 2 (some .int), Cond.instanceMethod yX1_look, Cond.selects RX1 yX1_look yX1_look, Cond.code yX1_look cX1_look 4 (some .int), Cond.selects RX1 yX1_last yX1_last, Cond.selects RX1 yX1_put yX1_put, Cond.selects RX1 yX1_hasOpen yX1_hasOpen, Cond.selects RX1 yX1_allWeights yX1_allWeights, Cond.selects RX1 yX1_isThere yX1_isThere, Cond.selects RX1 yX1_isEnded yX1_isEnded, Cond.selects RX1 yX1_find yX1_find, Cond.selects RX1 yX1_limit yX1_limit, Cond.selects RX1 yX1_frame yX1_frame, Cond.selects RX1 yX1_isAhead yX1_isAhead, Cond.selects RX1 yX1_erase yX1_erase, Cond.selects RX1 yX1_isFree yX1_isFree]
def wM_r5 : List Cond := [Cond.selects RX1 yX1_around yX1_around, Cond.selects RX1 yX1_endOf yX1_endOf, Cond.selects RX1 yX1_sumOf yX1_sumOf, Cond.initialized RX1, Cond.arrayClass .int, Cond.arrayClass .boolean, Cond.instanceMethod objectInit, Cond.code objectInit ⟨#[0xb1]⟩ 1 none]
def wsM_ : List Cond := wM_r0 ++ (wM_r1 ++ (wM_r2 ++ (wM_r3 ++ (wM_r4 ++ (wM_r5 ++ (wsX10))))))
theorem inwM_ : ∀ w ∈ wsX10, w ∈ wsM_ := fun w h => List.mem_append_right _ (List.mem_append_right _ (List.mem_append_right _ (List.mem_append_right _ (List.mem_append_right _ (List.mem_append_right _ (h))))))
theorem mM_im_init : Cond.instanceMethod yX1_init ∈ wsM_ := List.mem_append_left _ (List.mem_of_getElem? (i := 0) rfl)
theorem mM_co_init : Cond.code yX1_init cX1_init 1 none ∈ wsM_ := List.mem_append_left _ (List.mem_of_getElem? (i := 1) rfl)
theorem mM_ml_1 : Cond.methodLink RX1 1 objectInit ∈ wsM_ := List.mem_append_left _ (List.mem_of_getElem? (i := 2) rfl)
theorem mM_fl_45 : Cond.fieldLink RX1 45 "TraceLineModel" "thrown" "I" ∈ wsM_ := List.mem_append_left _ (List.mem_of_getElem? (i := 3) rfl)
theorem mM_fl_7 : Cond.fieldLink RX1 7 "TraceLineModel" "there" "[Z" ∈ wsM_ := List.mem_append_left _ (List.mem_of_getElem? (i := 4) rfl)
theorem mM_fl_13 : Cond.fieldLink RX1 13 "TraceLineModel" "keys" "[I" ∈ wsM_ := List.mem_append_left _ (List.mem_of_getElem? (i := 5) rfl)
theorem mM_fl_17 : Cond.fieldLink RX1 17 "TraceLineModel" "weights" "[I" ∈ wsM_ := List.mem_append_left _ (List.mem_of_getElem? (i := 6) rfl)
theorem mM_fl_20 : Cond.fieldLink RX1 20 "TraceLineModel" "isStale" "[Z" ∈ wsM_ := List.mem_append_left _ (List.mem_of_getElem? (i := 7) rfl)
theorem mM_fl_68 : Cond.fieldLink RX1 68 "TraceLineModel" "many" "I" ∈ wsM_ := List.mem_append_left _ (List.mem_of_getElem? (i := 8) rfl)
theorem mM_fl_79 : Cond.fieldLink RX1 79 "TraceLineModel" "whole" "I" ∈ wsM_ := List.mem_append_left _ (List.mem_of_getElem? (i := 9) rfl)
theorem mM_fl_23 : Cond.fieldLink RX1 23 "TraceLineModel" "line" "[I" ∈ wsM_ := List.mem_append_left _ (List.mem_of_getElem? (i := 10) rfl)
theorem mM_fl_48 : Cond.fieldLink RX1 48 "TraceLineModel" "events" "I" ∈ wsM_ := List.mem_append_left _ (List.mem_of_getElem? (i := 11) rfl)
theorem mM_fl_51 : Cond.fieldLink RX1 51 "TraceLineModel" "cursor" "I" ∈ wsM_ := List.mem_append_left _ (List.mem_of_getElem? (i := 12) rfl)
theorem mM_fl_26 : Cond.fieldLink RX1 26 "TraceLineModel" "frames" "I" ∈ wsM_ := List.mem_append_left _ (List.mem_of_getElem? (i := 13) rfl)
theorem mM_fl_30 : Cond.fieldLink RX1 30 "TraceLineModel" "frameOf" "[I" ∈ wsM_ := List.mem_append_left _ (List.mem_of_getElem? (i := 14) rfl)
theorem mM_fl_33 : Cond.fieldLink RX1 33 "TraceLineModel" "taken" "[Z" ∈ wsM_ := List.mem_append_left _ (List.mem_of_getElem? (i := 15) rfl)
theorem mM_fl_65 : Cond.fieldLink RX1 65 "TraceLineModel" "opens" "I" ∈ wsM_ := List.mem_append_left _ (List.mem_of_getElem? (i := 16) rfl)
theorem mM_fl_36 : Cond.fieldLink RX1 36 "TraceLineModel" "open" "[I" ∈ wsM_ := List.mem_append_left _ (List.mem_of_getElem? (i := 17) rfl)
theorem mM_fl_39 : Cond.fieldLink RX1 39 "TraceLineModel" "openIn" "[I" ∈ wsM_ := List.mem_append_left _ (List.mem_of_getElem? (i := 18) rfl)
theorem mM_fl_42 : Cond.fieldLink RX1 42 "TraceLineModel" "goes" "[Z" ∈ wsM_ := List.mem_append_left _ (List.mem_of_getElem? (i := 19) rfl)
theorem mM_im_thrown : Cond.instanceMethod yX1_thrown ∈ wsM_ := List.mem_append_left _ (List.mem_of_getElem? (i := 20) rfl)
theorem mM_se_thrown : Cond.selects RX1 yX1_thrown yX1_thrown ∈ wsM_ := List.mem_append_left _ (List.mem_of_getElem? (i := 21) rfl)
theorem mM_co_thrown : Cond.code yX1_thrown cX1_thrown 1 (some .int) ∈ wsM_ := List.mem_append_left _ (List.mem_of_getElem? (i := 22) rfl)
theorem mM_im_begin : Cond.instanceMethod yX1_begin ∈ wsM_ := List.mem_append_left _ (List.mem_of_getElem? (i := 23) rfl)
theorem mM_se_begin : Cond.selects RX1 yX1_begin yX1_begin ∈ wsM_ := List.mem_append_right _ (List.mem_append_left _ (List.mem_of_getElem? (i := 0) rfl))
theorem mM_co_begin : Cond.code yX1_begin cX1_begin 3 (some .int) ∈ wsM_ := List.mem_append_right _ (List.mem_append_left _ (List.mem_of_getElem? (i := 1) rfl))
theorem mM_ml_58 : Cond.methodLink RX1 58 yX1_last ∈ wsM_ := List.mem_append_right _ (List.mem_append_left _ (List.mem_of_getElem? (i := 2) rfl))
theorem mM_im_last : Cond.instanceMethod yX1_last ∈ wsM_ := List.mem_append_right _ (List.mem_append_left _ (List.mem_of_getElem? (i := 3) rfl))
theorem mM_co_last : Cond.code yX1_last cX1_last 1 (some .int) ∈ wsM_ := List.mem_append_right _ (List.mem_append_left _ (List.mem_of_getElem? (i := 4) rfl))
theorem mM_ml_71 : Cond.methodLink RX1 71 yX1_put ∈ wsM_ := List.mem_append_right _ (List.mem_append_left _ (List.mem_of_getElem? (i := 5) rfl))
theorem mM_im_put : Cond.instanceMethod yX1_put ∈ wsM_ := List.mem_append_right _ (List.mem_append_left _ (List.mem_of_getElem? (i := 6) rfl))
theorem mM_co_put : Cond.code yX1_put cX1_put 3 none ∈ wsM_ := List.mem_append_right _ (List.mem_append_left _ (List.mem_of_getElem? (i := 7) rfl))
theorem mM_im_end : Cond.instanceMethod yX1_end ∈ wsM_ := List.mem_append_right _ (List.mem_append_left _ (List.mem_of_getElem? (i := 8) rfl))
theorem mM_se_end : Cond.selects RX1 yX1_end yX1_end ∈ wsM_ := List.mem_append_right _ (List.mem_append_left _ (List.mem_of_getElem? (i := 9) rfl))
theorem mM_co_end : Cond.code yX1_end cX1_end 1 (some .int) ∈ wsM_ := List.mem_append_right _ (List.mem_append_left _ (List.mem_of_getElem? (i := 10) rfl))
theorem mM_ml_75 : Cond.methodLink RX1 75 yX1_hasOpen ∈ wsM_ := List.mem_append_right _ (List.mem_append_left _ (List.mem_of_getElem? (i := 11) rfl))
theorem mM_im_hasOpen : Cond.instanceMethod yX1_hasOpen ∈ wsM_ := List.mem_append_right _ (List.mem_append_left _ (List.mem_of_getElem? (i := 12) rfl))
theorem mM_co_hasOpen : Cond.code yX1_hasOpen cX1_hasOpen 1 (some .boolean) ∈ wsM_ := List.mem_append_right _ (List.mem_append_left _ (List.mem_of_getElem? (i := 13) rfl))
theorem mM_im_weigh : Cond.instanceMethod yX1_weigh ∈ wsM_ := List.mem_append_right _ (List.mem_append_left _ (List.mem_of_getElem? (i := 14) rfl))
theorem mM_se_weigh : Cond.selects RX1 yX1_weigh yX1_weigh ∈ wsM_ := List.mem_append_right _ (List.mem_append_left _ (List.mem_of_getElem? (i := 15) rfl))
theorem mM_co_weigh : Cond.code yX1_weigh cX1_weigh 3 (some .boolean) ∈ wsM_ := List.mem_append_right _ (List.mem_append_left _ (List.mem_of_getElem? (i := 16) rfl))
theorem mM_ml_82 : Cond.methodLink RX1 82 yX1_allWeights ∈ wsM_ := List.mem_append_right _ (List.mem_append_left _ (List.mem_of_getElem? (i := 17) rfl))
theorem mM_im_allWeights : Cond.instanceMethod yX1_allWeights ∈ wsM_ := List.mem_append_right _ (List.mem_append_left _ (List.mem_of_getElem? (i := 18) rfl))
theorem mM_co_allWeights : Cond.code yX1_allWeights cX1_allWeights 4 (some .long) ∈ wsM_ := List.mem_append_right _ (List.mem_append_left _ (List.mem_of_getElem? (i := 19) rfl))
theorem mM_cn_86 : Cond.constantLong RX1 86 1000000000 ∈ wsM_ := List.mem_append_right _ (List.mem_append_left _ (List.mem_of_getElem? (i := 20) rfl))
theorem mM_im_stale : Cond.instanceMethod yX1_stale ∈ wsM_ := List.mem_append_right _ (List.mem_append_left _ (List.mem_of_getElem? (i := 21) rfl))
theorem mM_se_stale : Cond.selects RX1 yX1_stale yX1_stale ∈ wsM_ := List.mem_append_right _ (List.mem_append_left _ (List.mem_of_getElem? (i := 22) rfl))
theorem mM_co_stale : Cond.code yX1_stale cX1_stale 2 (some .boolean) ∈ wsM_ := List.mem_append_right _ (List.mem_append_left _ (List.mem_of_getElem? (i := 23) rfl))
theorem mM_ml_88 : Cond.methodLink RX1 88 yX1_isThere ∈ wsM_ := List.mem_append_right _ (List.mem_append_right _ (List.mem_append_left _ (List.mem_of_getElem? (i := 0) rfl)))
theorem mM_im_isThere : Cond.instanceMethod yX1_isThere ∈ wsM_ := List.mem_append_right _ (List.mem_append_right _ (List.mem_append_left _ (List.mem_of_getElem? (i := 1) rfl)))
theorem mM_co_isThere : Cond.code yX1_isThere cX1_isThere 2 (some .boolean) ∈ wsM_ := List.mem_append_right _ (List.mem_append_right _ (List.mem_append_left _ (List.mem_of_getElem? (i := 2) rfl)))
theorem mM_ml_92 : Cond.methodLink RX1 92 yX1_isEnded ∈ wsM_ := List.mem_append_right _ (List.mem_append_right _ (List.mem_append_left _ (List.mem_of_getElem? (i := 3) rfl)))
theorem mM_im_isEnded : Cond.instanceMethod yX1_isEnded ∈ wsM_ := List.mem_append_right _ (List.mem_append_right _ (List.mem_append_left _ (List.mem_of_getElem? (i := 4) rfl)))
theorem mM_co_isEnded : Cond.code yX1_isEnded cX1_isEnded 2 (some .boolean) ∈ wsM_ := List.mem_append_right _ (List.mem_append_right _ (List.mem_append_left _ (List.mem_of_getElem? (i := 5) rfl)))
theorem mM_ml_54 : Cond.methodLink RX1 54 yX1_find ∈ wsM_ := List.mem_append_right _ (List.mem_append_right _ (List.mem_append_left _ (List.mem_of_getElem? (i := 6) rfl)))
theorem mM_im_find : Cond.instanceMethod yX1_find ∈ wsM_ := List.mem_append_right _ (List.mem_append_right _ (List.mem_append_left _ (List.mem_of_getElem? (i := 7) rfl)))
theorem mM_co_find : Cond.code yX1_find cX1_find 3 (some .int) ∈ wsM_ := List.mem_append_right _ (List.mem_append_right _ (List.mem_append_left _ (List.mem_of_getElem? (i := 8) rfl)))
theorem mM_im_resume : Cond.instanceMethod yX1_resume ∈ wsM_ := List.mem_append_right _ (List.mem_append_right _ (List.mem_append_left _ (List.mem_of_getElem? (i := 9) rfl)))
theorem mM_se_resume : Cond.selects RX1 yX1_resume yX1_resume ∈ wsM_ := List.mem_append_right _ (List.mem_append_right _ (List.mem_append_left _ (List.mem_of_getElem? (i := 10) rfl)))
theorem mM_co_resume : Cond.code yX1_resume cX1_resume 5 (some .int) ∈ wsM_ := List.mem_append_right _ (List.mem_append_right _ (List.mem_append_left _ (List.mem_of_getElem? (i := 11) rfl)))
theorem mM_ml_62 : Cond.methodLink RX1 62 yX1_limit ∈ wsM_ := List.mem_append_right _ (List.mem_append_right _ (List.mem_append_left _ (List.mem_of_getElem? (i := 12) rfl)))
theorem mM_im_limit : Cond.instanceMethod yX1_limit ∈ wsM_ := List.mem_append_right _ (List.mem_append_right _ (List.mem_append_left _ (List.mem_of_getElem? (i := 13) rfl)))
theorem mM_co_limit : Cond.code yX1_limit cX1_limit 1 (some .int) ∈ wsM_ := List.mem_append_right _ (List.mem_append_right _ (List.mem_append_left _ (List.mem_of_getElem? (i := 14) rfl)))
theorem mM_ml_95 : Cond.methodLink RX1 95 yX1_frame ∈ wsM_ := List.mem_append_right _ (List.mem_append_right _ (List.mem_append_left _ (List.mem_of_getElem? (i := 15) rfl)))
theorem mM_im_frame : Cond.instanceMethod yX1_frame ∈ wsM_ := List.mem_append_right _ (List.mem_append_right _ (List.mem_append_left _ (List.mem_of_getElem? (i := 16) rfl)))
theorem mM_co_frame : Cond.code yX1_frame cX1_frame 3 none ∈ wsM_ := List.mem_append_right _ (List.mem_append_right _ (List.mem_append_left _ (List.mem_of_getElem? (i := 17) rfl)))
theorem mM_im_take : Cond.instanceMethod yX1_take ∈ wsM_ := List.mem_append_right _ (List.mem_append_right _ (List.mem_append_left _ (List.mem_of_getElem? (i := 18) rfl)))
theorem mM_se_take : Cond.selects RX1 yX1_take yX1_take ∈ wsM_ := List.mem_append_right _ (List.mem_append_right _ (List.mem_append_left _ (List.mem_of_getElem? (i := 19) rfl)))
theorem mM_co_take : Cond.code yX1_take cX1_take 5 (some .int) ∈ wsM_ := List.mem_append_right _ (List.mem_append_right _ (List.mem_append_left _ (List.mem_of_getElem? (i := 20) rfl)))
theorem mM_ml_99 : Cond.methodLink RX1 99 yX1_isAhead ∈ wsM_ := List.mem_append_right _ (List.mem_append_right _ (List.mem_append_left _ (List.mem_of_getElem? (i := 21) rfl)))
theorem mM_im_isAhead : Cond.instanceMethod yX1_isAhead ∈ wsM_ := List.mem_append_right _ (List.mem_append_right _ (List.mem_append_left _ (List.mem_of_getElem? (i := 22) rfl)))
theorem mM_co_isAhead : Cond.code yX1_isAhead cX1_isAhead 2 (some .boolean) ∈ wsM_ := List.mem_append_right _ (List.mem_append_right _ (List.mem_append_left _ (List.mem_of_getElem? (i := 23) rfl)))
theorem mM_ml_102 : Cond.methodLink RX1 102 yX1_erase ∈ wsM_ := List.mem_append_right _ (List.mem_append_right _ (List.mem_append_right _ (List.mem_append_left _ (List.mem_of_getElem? (i := 0) rfl))))
theorem mM_im_erase : Cond.instanceMethod yX1_erase ∈ wsM_ := List.mem_append_right _ (List.mem_append_right _ (List.mem_append_right _ (List.mem_append_left _ (List.mem_of_getElem? (i := 1) rfl))))
theorem mM_co_erase : Cond.code yX1_erase cX1_erase 6 none ∈ wsM_ := List.mem_append_right _ (List.mem_append_right _ (List.mem_append_right _ (List.mem_append_left _ (List.mem_of_getElem? (i := 2) rfl))))
theorem mM_im_done : Cond.instanceMethod yX1_done ∈ wsM_ := List.mem_append_right _ (List.mem_append_right _ (List.mem_append_right _ (List.mem_append_left _ (List.mem_of_getElem? (i := 3) rfl))))
theorem mM_se_done : Cond.selects RX1 yX1_done yX1_done ∈ wsM_ := List.mem_append_right _ (List.mem_append_right _ (List.mem_append_right _ (List.mem_append_left _ (List.mem_of_getElem? (i := 4) rfl))))
theorem mM_co_done : Cond.code yX1_done cX1_done 2 (some .int) ∈ wsM_ := List.mem_append_right _ (List.mem_append_right _ (List.mem_append_right _ (List.mem_append_left _ (List.mem_of_getElem? (i := 5) rfl))))
theorem mM_im_toEnd : Cond.instanceMethod yX1_toEnd ∈ wsM_ := List.mem_append_right _ (List.mem_append_right _ (List.mem_append_right _ (List.mem_append_left _ (List.mem_of_getElem? (i := 6) rfl))))
theorem mM_se_toEnd : Cond.selects RX1 yX1_toEnd yX1_toEnd ∈ wsM_ := List.mem_append_right _ (List.mem_append_right _ (List.mem_append_right _ (List.mem_append_left _ (List.mem_of_getElem? (i := 7) rfl))))
theorem mM_co_toEnd : Cond.code yX1_toEnd cX1_toEnd 1 (some .boolean) ∈ wsM_ := List.mem_append_right _ (List.mem_append_right _ (List.mem_append_right _ (List.mem_append_left _ (List.mem_of_getElem? (i := 8) rfl))))
theorem mM_ml_106 : Cond.methodLink RX1 106 yX1_isFree ∈ wsM_ := List.mem_append_right _ (List.mem_append_right _ (List.mem_append_right _ (List.mem_append_left _ (List.mem_of_getElem? (i := 9) rfl))))
theorem mM_im_isFree : Cond.instanceMethod yX1_isFree ∈ wsM_ := List.mem_append_right _ (List.mem_append_right _ (List.mem_append_right _ (List.mem_append_left _ (List.mem_of_getElem? (i := 10) rfl))))
theorem mM_co_isFree : Cond.code yX1_isFree cX1_isFree 1 (some .boolean) ∈ wsM_ := List.mem_append_right _ (List.mem_append_right _ (List.mem_append_right _ (List.mem_append_left _ (List.mem_of_getElem? (i := 11) rfl))))
theorem mM_im_toBegin : Cond.instanceMethod yX1_toBegin ∈ wsM_ := List.mem_append_right _ (List.mem_append_right _ (List.mem_append_right _ (List.mem_append_left _ (List.mem_of_getElem? (i := 12) rfl))))
theorem mM_se_toBegin : Cond.selects RX1 yX1_toBegin yX1_toBegin ∈ wsM_ := List.mem_append_right _ (List.mem_append_right _ (List.mem_append_right _ (List.mem_append_left _ (List.mem_of_getElem? (i := 13) rfl))))
theorem mM_co_toBegin : Cond.code yX1_toBegin cX1_toBegin 1 (some .boolean) ∈ wsM_ := List.mem_append_right _ (List.mem_append_right _ (List.mem_append_right _ (List.mem_append_left _ (List.mem_of_getElem? (i := 14) rfl))))
theorem mM_im_wipe : Cond.instanceMethod yX1_wipe ∈ wsM_ := List.mem_append_right _ (List.mem_append_right _ (List.mem_append_right _ (List.mem_append_left _ (List.mem_of_getElem? (i := 15) rfl))))
theorem mM_se_wipe : Cond.selects RX1 yX1_wipe yX1_wipe ∈ wsM_ := List.mem_append_right _ (List.mem_append_right _ (List.mem_append_right _ (List.mem_append_left _ (List.mem_of_getElem? (i := 16) rfl))))
theorem mM_co_wipe : Cond.code yX1_wipe cX1_wipe 2 none ∈ wsM_ := List.mem_append_right _ (List.mem_append_right _ (List.mem_append_right _ (List.mem_append_left _ (List.mem_of_getElem? (i := 17) rfl))))
theorem mM_im_of : Cond.instanceMethod yX1_of ∈ wsM_ := List.mem_append_right _ (List.mem_append_right _ (List.mem_append_right _ (List.mem_append_left _ (List.mem_of_getElem? (i := 18) rfl))))
theorem mM_se_of : Cond.selects RX1 yX1_of yX1_of ∈ wsM_ := List.mem_append_right _ (List.mem_append_right _ (List.mem_append_right _ (List.mem_append_left _ (List.mem_of_getElem? (i := 19) rfl))))
theorem mM_co_of : Cond.code yX1_of cX1_of 3 (some .int) ∈ wsM_ := List.mem_append_right _ (List.mem_append_right _ (List.mem_append_right _ (List.mem_append_left _ (List.mem_of_getElem? (i := 20) rfl))))
theorem mM_ml_112 : Cond.methodLink RX1 112 yX1_around ∈ wsM_ := List.mem_append_right _ (List.mem_append_right _ (List.mem_append_right _ (List.mem_append_left _ (List.mem_of_getElem? (i := 21) rfl))))
theorem mM_im_around : Cond.instanceMethod yX1_around ∈ wsM_ := List.mem_append_right _ (List.mem_append_right _ (List.mem_append_right _ (List.mem_append_left _ (List.mem_of_getElem? (i := 22) rfl))))
theorem mM_co_around : Cond.code yX1_around cX1_around 5 (some .int) ∈ wsM_ := List.mem_append_right _ (List.mem_append_right _ (List.mem_append_right _ (List.mem_append_left _ (List.mem_of_getElem? (i := 23) rfl))))
theorem mM_ml_109 : Cond.methodLink RX1 109 yX1_endOf ∈ wsM_ := List.mem_append_right _ (List.mem_append_right _ (List.mem_append_right _ (List.mem_append_right _ (List.mem_append_left _ (List.mem_of_getElem? (i := 0) rfl)))))
theorem mM_im_endOf : Cond.instanceMethod yX1_endOf ∈ wsM_ := List.mem_append_right _ (List.mem_append_right _ (List.mem_append_right _ (List.mem_append_right _ (List.mem_append_left _ (List.mem_of_getElem? (i := 1) rfl)))))
theorem mM_co_endOf : Cond.code yX1_endOf cX1_endOf 3 (some .int) ∈ wsM_ := List.mem_append_right _ (List.mem_append_right _ (List.mem_append_right _ (List.mem_append_right _ (List.mem_append_left _ (List.mem_of_getElem? (i := 2) rfl)))))
theorem mM_ml_115 : Cond.methodLink RX1 115 yX1_sumOf ∈ wsM_ := List.mem_append_right _ (List.mem_append_right _ (List.mem_append_right _ (List.mem_append_right _ (List.mem_append_left _ (List.mem_of_getElem? (i := 3) rfl)))))
theorem mM_im_sumOf : Cond.instanceMethod yX1_sumOf ∈ wsM_ := List.mem_append_right _ (List.mem_append_right _ (List.mem_append_right _ (List.mem_append_right _ (List.mem_append_left _ (List.mem_of_getElem? (i := 4) rfl)))))
theorem mM_co_sumOf : Cond.code yX1_sumOf cX1_sumOf 4 (some .int) ∈ wsM_ := List.mem_append_right _ (List.mem_append_right _ (List.mem_append_right _ (List.mem_append_right _ (List.mem_append_left _ (List.mem_of_getElem? (i := 5) rfl)))))
theorem mM_im_event : Cond.instanceMethod yX1_event ∈ wsM_ := List.mem_append_right _ (List.mem_append_right _ (List.mem_append_right _ (List.mem_append_right _ (List.mem_append_left _ (List.mem_of_getElem? (i := 6) rfl)))))
theorem mM_se_event : Cond.selects RX1 yX1_event yX1_event ∈ wsM_ := List.mem_append_right _ (List.mem_append_right _ (List.mem_append_right _ (List.mem_append_right _ (List.mem_append_left _ (List.mem_of_getElem? (i := 7) rfl)))))
theorem mM_co_event : Cond.code yX1_event cX1_event 2 (some .int) ∈ wsM_ := List.mem_append_right _ (List.mem_append_right _ (List.mem_append_right _ (List.mem_append_right _ (List.mem_append_left _ (List.mem_of_getElem? (i := 8) rfl)))))
theorem mM_im_look : Cond.instanceMethod yX1_look ∈ wsM_ := List.mem_append_right _ (List.mem_append_right _ (List.mem_append_right _ (List.mem_append_right _ (List.mem_append_left _ (List.mem_of_getElem? (i := 9) rfl)))))
theorem mM_se_look : Cond.selects RX1 yX1_look yX1_look ∈ wsM_ := List.mem_append_right _ (List.mem_append_right _ (List.mem_append_right _ (List.mem_append_right _ (List.mem_append_left _ (List.mem_of_getElem? (i := 10) rfl)))))
theorem mM_co_look : Cond.code yX1_look cX1_look 4 (some .int) ∈ wsM_ := List.mem_append_right _ (List.mem_append_right _ (List.mem_append_right _ (List.mem_append_right _ (List.mem_append_left _ (List.mem_of_getElem? (i := 11) rfl)))))
theorem mM_se_last : Cond.selects RX1 yX1_last yX1_last ∈ wsM_ := List.mem_append_right _ (List.mem_append_right _ (List.mem_append_right _ (List.mem_append_right _ (List.mem_append_left _ (List.mem_of_getElem? (i := 12) rfl)))))
theorem mM_se_put : Cond.selects RX1 yX1_put yX1_put ∈ wsM_ := List.mem_append_right _ (List.mem_append_right _ (List.mem_append_right _ (List.mem_append_right _ (List.mem_append_left _ (List.mem_of_getElem? (i := 13) rfl)))))
theorem mM_se_hasOpen : Cond.selects RX1 yX1_hasOpen yX1_hasOpen ∈ wsM_ := List.mem_append_right _ (List.mem_append_right _ (List.mem_append_right _ (List.mem_append_right _ (List.mem_append_left _ (List.mem_of_getElem? (i := 14) rfl)))))
theorem mM_se_allWeights : Cond.selects RX1 yX1_allWeights yX1_allWeights ∈ wsM_ := List.mem_append_right _ (List.mem_append_right _ (List.mem_append_right _ (List.mem_append_right _ (List.mem_append_left _ (List.mem_of_getElem? (i := 15) rfl)))))
theorem mM_se_isThere : Cond.selects RX1 yX1_isThere yX1_isThere ∈ wsM_ := List.mem_append_right _ (List.mem_append_right _ (List.mem_append_right _ (List.mem_append_right _ (List.mem_append_left _ (List.mem_of_getElem? (i := 16) rfl)))))
theorem mM_se_isEnded : Cond.selects RX1 yX1_isEnded yX1_isEnded ∈ wsM_ := List.mem_append_right _ (List.mem_append_right _ (List.mem_append_right _ (List.mem_append_right _ (List.mem_append_left _ (List.mem_of_getElem? (i := 17) rfl)))))
theorem mM_se_find : Cond.selects RX1 yX1_find yX1_find ∈ wsM_ := List.mem_append_right _ (List.mem_append_right _ (List.mem_append_right _ (List.mem_append_right _ (List.mem_append_left _ (List.mem_of_getElem? (i := 18) rfl)))))
theorem mM_se_limit : Cond.selects RX1 yX1_limit yX1_limit ∈ wsM_ := List.mem_append_right _ (List.mem_append_right _ (List.mem_append_right _ (List.mem_append_right _ (List.mem_append_left _ (List.mem_of_getElem? (i := 19) rfl)))))
theorem mM_se_frame : Cond.selects RX1 yX1_frame yX1_frame ∈ wsM_ := List.mem_append_right _ (List.mem_append_right _ (List.mem_append_right _ (List.mem_append_right _ (List.mem_append_left _ (List.mem_of_getElem? (i := 20) rfl)))))
theorem mM_se_isAhead : Cond.selects RX1 yX1_isAhead yX1_isAhead ∈ wsM_ := List.mem_append_right _ (List.mem_append_right _ (List.mem_append_right _ (List.mem_append_right _ (List.mem_append_left _ (List.mem_of_getElem? (i := 21) rfl)))))
theorem mM_se_erase : Cond.selects RX1 yX1_erase yX1_erase ∈ wsM_ := List.mem_append_right _ (List.mem_append_right _ (List.mem_append_right _ (List.mem_append_right _ (List.mem_append_left _ (List.mem_of_getElem? (i := 22) rfl)))))
theorem mM_se_isFree : Cond.selects RX1 yX1_isFree yX1_isFree ∈ wsM_ := List.mem_append_right _ (List.mem_append_right _ (List.mem_append_right _ (List.mem_append_right _ (List.mem_append_left _ (List.mem_of_getElem? (i := 23) rfl)))))
theorem mM_se_around : Cond.selects RX1 yX1_around yX1_around ∈ wsM_ := List.mem_append_right _ (List.mem_append_right _ (List.mem_append_right _ (List.mem_append_right _ (List.mem_append_right _ (List.mem_append_left _ (List.mem_of_getElem? (i := 0) rfl))))))
theorem mM_se_endOf : Cond.selects RX1 yX1_endOf yX1_endOf ∈ wsM_ := List.mem_append_right _ (List.mem_append_right _ (List.mem_append_right _ (List.mem_append_right _ (List.mem_append_right _ (List.mem_append_left _ (List.mem_of_getElem? (i := 1) rfl))))))
theorem mM_se_sumOf : Cond.selects RX1 yX1_sumOf yX1_sumOf ∈ wsM_ := List.mem_append_right _ (List.mem_append_right _ (List.mem_append_right _ (List.mem_append_right _ (List.mem_append_right _ (List.mem_append_left _ (List.mem_of_getElem? (i := 2) rfl))))))
theorem mM_in_ : Cond.initialized RX1 ∈ wsM_ := List.mem_append_right _ (List.mem_append_right _ (List.mem_append_right _ (List.mem_append_right _ (List.mem_append_right _ (List.mem_append_left _ (List.mem_of_getElem? (i := 3) rfl))))))
theorem mM_ac_i : Cond.arrayClass .int ∈ wsM_ := List.mem_append_right _ (List.mem_append_right _ (List.mem_append_right _ (List.mem_append_right _ (List.mem_append_right _ (List.mem_append_left _ (List.mem_of_getElem? (i := 4) rfl))))))
theorem mM_ac_z : Cond.arrayClass .boolean ∈ wsM_ := List.mem_append_right _ (List.mem_append_right _ (List.mem_append_right _ (List.mem_append_right _ (List.mem_append_right _ (List.mem_append_left _ (List.mem_of_getElem? (i := 5) rfl))))))
theorem mM_oi : Cond.instanceMethod objectInit ∈ wsM_ := List.mem_append_right _ (List.mem_append_right _ (List.mem_append_right _ (List.mem_append_right _ (List.mem_append_right _ (List.mem_append_left _ (List.mem_of_getElem? (i := 6) rfl))))))
theorem mM_oc : Cond.code objectInit ⟨#[0xb1]⟩ 1 none ∈ wsM_ := List.mem_append_right _ (List.mem_append_right _ (List.mem_append_right _ (List.mem_append_right _ (List.mem_append_right _ (List.mem_append_left _ (List.mem_of_getElem? (i := 7) rfl))))))
theorem gM_all : GoodIn wsM_ wsM_ := goodIn_sub (fun _ h => h) (by decide +kernel)
def wsX1_init : List Cond := .code yX1_init cX1_init 1 none :: wsM_
def wsX1_thrown : List Cond := .code yX1_thrown cX1_thrown 1 (some .int) :: wsM_
def wsX1_begin : List Cond := .code yX1_begin cX1_begin 3 (some .int) :: wsM_
def wsX1_last : List Cond := .code yX1_last cX1_last 1 (some .int) :: wsM_
theorem qM_last : GoodIn wsM_ (wsV RX1 58 RX1 yX1_last wsX1_last) := gi_V gM_all mM_ml_58 mM_im_last mM_se_last mM_in_ mM_co_last
def wsX1_put : List Cond := .code yX1_put cX1_put 3 none :: wsM_
theorem qM_put : GoodIn wsM_ (wsV RX1 71 RX1 yX1_put wsX1_put) := gi_V gM_all mM_ml_71 mM_im_put mM_se_put mM_in_ mM_co_put
def wsX1_end : List Cond := .code yX1_end cX1_end 1 (some .int) :: wsM_
def wsX1_hasOpen : List Cond := .code yX1_hasOpen cX1_hasOpen 1 (some .boolean) :: wsM_
theorem qM_hasOpen : GoodIn wsM_ (wsV RX1 75 RX1 yX1_hasOpen wsX1_hasOpen) := gi_V gM_all mM_ml_75 mM_im_hasOpen mM_se_hasOpen mM_in_ mM_co_hasOpen
def wsX1_weigh : List Cond := .code yX1_weigh cX1_weigh 3 (some .boolean) :: wsM_
def wsX1_allWeights : List Cond := .code yX1_allWeights cX1_allWeights 4 (some .long) :: wsM_
theorem qM_allWeights : GoodIn wsM_ (wsV RX1 82 RX1 yX1_allWeights wsX1_allWeights) := gi_V gM_all mM_ml_82 mM_im_allWeights mM_se_allWeights mM_in_ mM_co_allWeights
def wsX1_stale : List Cond := .code yX1_stale cX1_stale 2 (some .boolean) :: wsM_
def wsX1_isThere : List Cond := .code yX1_isThere cX1_isThere 2 (some .boolean) :: wsM_
theorem qM_isThere : GoodIn wsM_ (wsV RX1 88 RX1 yX1_isThere wsX1_isThere) := gi_V gM_all mM_ml_88 mM_im_isThere mM_se_isThere mM_in_ mM_co_isThere
def wsX1_isEnded : List Cond := .code yX1_isEnded cX1_isEnded 2 (some .boolean) :: wsM_
theorem qM_isEnded : GoodIn wsM_ (wsV RX1 92 RX1 yX1_isEnded wsX1_isEnded) := gi_V gM_all mM_ml_92 mM_im_isEnded mM_se_isEnded mM_in_ mM_co_isEnded
def wsX1_find : List Cond := .code yX1_find cX1_find 3 (some .int) :: wsM_
theorem qM_find : GoodIn wsM_ (wsV RX1 54 RX1 yX1_find wsX1_find) := gi_V gM_all mM_ml_54 mM_im_find mM_se_find mM_in_ mM_co_find
def wsX1_resume : List Cond := .code yX1_resume cX1_resume 5 (some .int) :: wsM_
def wsX1_limit : List Cond := .code yX1_limit cX1_limit 1 (some .int) :: wsM_
theorem qM_limit : GoodIn wsM_ (wsV RX1 62 RX1 yX1_limit wsX1_limit) := gi_V gM_all mM_ml_62 mM_im_limit mM_se_limit mM_in_ mM_co_limit
def wsX1_frame : List Cond := .code yX1_frame cX1_frame 3 none :: wsM_
theorem qM_frame : GoodIn wsM_ (wsV RX1 95 RX1 yX1_frame wsX1_frame) := gi_V gM_all mM_ml_95 mM_im_frame mM_se_frame mM_in_ mM_co_frame
def wsX1_take : List Cond := .code yX1_take cX1_take 5 (some .int) :: wsM_
def wsX1_isAhead : List Cond := .code yX1_isAhead cX1_isAhead 2 (some .boolean) :: wsM_
theorem qM_isAhead : GoodIn wsM_ (wsV RX1 99 RX1 yX1_isAhead wsX1_isAhead) := gi_V gM_all mM_ml_99 mM_im_isAhead mM_se_isAhead mM_in_ mM_co_isAhead
def wsX1_erase : List Cond := .code yX1_erase cX1_erase 6 none :: wsM_
theorem qM_erase : GoodIn wsM_ (wsV RX1 102 RX1 yX1_erase wsX1_erase) := gi_V gM_all mM_ml_102 mM_im_erase mM_se_erase mM_in_ mM_co_erase
def wsX1_done : List Cond := .code yX1_done cX1_done 2 (some .int) :: wsM_
def wsX1_toEnd : List Cond := .code yX1_toEnd cX1_toEnd 1 (some .boolean) :: wsM_
def wsX1_isFree : List Cond := .code yX1_isFree cX1_isFree 1 (some .boolean) :: wsM_
theorem qM_isFree : GoodIn wsM_ (wsV RX1 106 RX1 yX1_isFree wsX1_isFree) := gi_V gM_all mM_ml_106 mM_im_isFree mM_se_isFree mM_in_ mM_co_isFree
def wsX1_toBegin : List Cond := .code yX1_toBegin cX1_toBegin 1 (some .boolean) :: wsM_
def wsX1_wipe : List Cond := .code yX1_wipe cX1_wipe 2 none :: wsM_
def wsX1_of : List Cond := .code yX1_of cX1_of 3 (some .int) :: wsM_
def wsX1_around : List Cond := .code yX1_around cX1_around 5 (some .int) :: wsM_
theorem qM_around : GoodIn wsM_ (wsV RX1 112 RX1 yX1_around wsX1_around) := gi_V gM_all mM_ml_112 mM_im_around mM_se_around mM_in_ mM_co_around
def wsX1_endOf : List Cond := .code yX1_endOf cX1_endOf 3 (some .int) :: wsM_
theorem qM_endOf : GoodIn wsM_ (wsV RX1 109 RX1 yX1_endOf wsX1_endOf) := gi_V gM_all mM_ml_109 mM_im_endOf mM_se_endOf mM_in_ mM_co_endOf
def wsX1_sumOf : List Cond := .code yX1_sumOf cX1_sumOf 4 (some .int) :: wsM_
theorem qM_sumOf : GoodIn wsM_ (wsV RX1 115 RX1 yX1_sumOf wsX1_sumOf) := gi_V gM_all mM_ml_115 mM_im_sumOf mM_se_sumOf mM_in_ mM_co_sumOf
def wsX1_event : List Cond := .code yX1_event cX1_event 2 (some .int) :: wsM_
def wsX1_look : List Cond := .code yX1_look cX1_look 4 (some .int) :: wsM_
theorem dX1_init_0 : decode cX1_init 0 = .ok (.aload_n 0, 1) := by decide +kernel
theorem dX1_init_1 : decode cX1_init 1 = .ok (.invokespecial 1, 3) := by decide +kernel
theorem dX1_init_4 : decode cX1_init 4 = .ok (.aload_n 0, 1) := by decide +kernel
theorem dX1_init_5 : decode cX1_init 5 = .ok (.sipush 600, 3) := by decide +kernel
theorem dX1_init_8 : decode cX1_init 8 = .ok (.newarray .boolean, 2) := by decide +kernel
theorem dX1_init_10 : decode cX1_init 10 = .ok (.putfield 7, 3) := by decide +kernel
theorem dX1_init_13 : decode cX1_init 13 = .ok (.aload_n 0, 1) := by decide +kernel
theorem dX1_init_14 : decode cX1_init 14 = .ok (.sipush 600, 3) := by decide +kernel
theorem dX1_init_17 : decode cX1_init 17 = .ok (.newarray .int, 2) := by decide +kernel
theorem dX1_init_19 : decode cX1_init 19 = .ok (.putfield 13, 3) := by decide +kernel
theorem dX1_init_22 : decode cX1_init 22 = .ok (.aload_n 0, 1) := by decide +kernel
theorem dX1_init_23 : decode cX1_init 23 = .ok (.sipush 600, 3) := by decide +kernel
theorem dX1_init_26 : decode cX1_init 26 = .ok (.newarray .int, 2) := by decide +kernel
theorem dX1_init_28 : decode cX1_init 28 = .ok (.putfield 17, 3) := by decide +kernel
theorem dX1_init_31 : decode cX1_init 31 = .ok (.aload_n 0, 1) := by decide +kernel
theorem dX1_init_32 : decode cX1_init 32 = .ok (.sipush 600, 3) := by decide +kernel
theorem dX1_init_35 : decode cX1_init 35 = .ok (.newarray .boolean, 2) := by decide +kernel
theorem dX1_init_37 : decode cX1_init 37 = .ok (.putfield 20, 3) := by decide +kernel
theorem dX1_init_40 : decode cX1_init 40 = .ok (.aload_n 0, 1) := by decide +kernel
theorem dX1_init_41 : decode cX1_init 41 = .ok (.sipush 1200, 3) := by decide +kernel
theorem dX1_init_44 : decode cX1_init 44 = .ok (.newarray .int, 2) := by decide +kernel
theorem dX1_init_46 : decode cX1_init 46 = .ok (.putfield 23, 3) := by decide +kernel
theorem dX1_init_49 : decode cX1_init 49 = .ok (.aload_n 0, 1) := by decide +kernel
theorem dX1_init_50 : decode cX1_init 50 = .ok (.iconst 1, 1) := by decide +kernel
theorem dX1_init_51 : decode cX1_init 51 = .ok (.putfield 26, 3) := by decide +kernel
theorem dX1_init_54 : decode cX1_init 54 = .ok (.aload_n 0, 1) := by decide +kernel
theorem dX1_init_55 : decode cX1_init 55 = .ok (.bipush 64, 2) := by decide +kernel
theorem dX1_init_57 : decode cX1_init 57 = .ok (.newarray .int, 2) := by decide +kernel
theorem dX1_init_59 : decode cX1_init 59 = .ok (.putfield 30, 3) := by decide +kernel
theorem dX1_init_62 : decode cX1_init 62 = .ok (.aload_n 0, 1) := by decide +kernel
theorem dX1_init_63 : decode cX1_init 63 = .ok (.bipush 64, 2) := by decide +kernel
theorem dX1_init_65 : decode cX1_init 65 = .ok (.newarray .boolean, 2) := by decide +kernel
theorem dX1_init_67 : decode cX1_init 67 = .ok (.putfield 33, 3) := by decide +kernel
theorem dX1_init_70 : decode cX1_init 70 = .ok (.aload_n 0, 1) := by decide +kernel
theorem dX1_init_71 : decode cX1_init 71 = .ok (.sipush 600, 3) := by decide +kernel
theorem dX1_init_74 : decode cX1_init 74 = .ok (.newarray .int, 2) := by decide +kernel
theorem dX1_init_76 : decode cX1_init 76 = .ok (.putfield 36, 3) := by decide +kernel
theorem dX1_init_79 : decode cX1_init 79 = .ok (.aload_n 0, 1) := by decide +kernel
theorem dX1_init_80 : decode cX1_init 80 = .ok (.sipush 600, 3) := by decide +kernel
theorem dX1_init_83 : decode cX1_init 83 = .ok (.newarray .int, 2) := by decide +kernel
theorem dX1_init_85 : decode cX1_init 85 = .ok (.putfield 39, 3) := by decide +kernel
theorem dX1_init_88 : decode cX1_init 88 = .ok (.aload_n 0, 1) := by decide +kernel
theorem dX1_init_89 : decode cX1_init 89 = .ok (.sipush 600, 3) := by decide +kernel
theorem dX1_init_92 : decode cX1_init 92 = .ok (.newarray .boolean, 2) := by decide +kernel
theorem dX1_init_94 : decode cX1_init 94 = .ok (.putfield 42, 3) := by decide +kernel
theorem dX1_init_97 : decode cX1_init 97 = .ok (.aload_n 0, 1) := by decide +kernel
theorem dX1_init_98 : decode cX1_init 98 = .ok (.getfield 30, 3) := by decide +kernel
theorem dX1_init_101 : decode cX1_init 101 = .ok (.iconst 0, 1) := by decide +kernel
theorem dX1_init_102 : decode cX1_init 102 = .ok (.iconst (-1), 1) := by decide +kernel
theorem dX1_init_103 : decode cX1_init 103 = .ok (.iastore, 1) := by decide +kernel
theorem dX1_init_104 : decode cX1_init 104 = .ok (.return_, 1) := by decide +kernel
theorem dX1_thrown_0 : decode cX1_thrown 0 = .ok (.aload_n 0, 1) := by decide +kernel
theorem dX1_thrown_1 : decode cX1_thrown 1 = .ok (.getfield 45, 3) := by decide +kernel
theorem dX1_thrown_4 : decode cX1_thrown 4 = .ok (.ireturn, 1) := by decide +kernel
theorem dX1_begin_0 : decode cX1_begin 0 = .ok (.aload_n 0, 1) := by decide +kernel
theorem dX1_begin_1 : decode cX1_begin 1 = .ok (.iconst 0, 1) := by decide +kernel
theorem dX1_begin_2 : decode cX1_begin 2 = .ok (.putfield 45, 3) := by decide +kernel
theorem dX1_begin_5 : decode cX1_begin 5 = .ok (.aload_n 0, 1) := by decide +kernel
theorem dX1_begin_6 : decode cX1_begin 6 = .ok (.getfield 68, 3) := by decide +kernel
theorem dX1_begin_9 : decode cX1_begin 9 = .ok (.sipush 600, 3) := by decide +kernel
theorem dX1_begin_12 : decode cX1_begin 12 = .ok (.if_icmp .eq 15, 3) := by decide +kernel
theorem dX1_begin_15 : decode cX1_begin 15 = .ok (.aload_n 0, 1) := by decide +kernel
theorem dX1_begin_16 : decode cX1_begin 16 = .ok (.getfield 33, 3) := by decide +kernel
theorem dX1_begin_19 : decode cX1_begin 19 = .ok (.aload_n 0, 1) := by decide +kernel
theorem dX1_begin_20 : decode cX1_begin 20 = .ok (.invokevirtual 58, 3) := by decide +kernel
theorem dX1_begin_23 : decode cX1_begin 23 = .ok (.baload, 1) := by decide +kernel
theorem dX1_begin_24 : decode cX1_begin 24 = .ok (.ifCond .eq 5, 3) := by decide +kernel
theorem dX1_begin_27 : decode cX1_begin 27 = .ok (.iconst (-1), 1) := by decide +kernel
theorem dX1_begin_28 : decode cX1_begin 28 = .ok (.ireturn, 1) := by decide +kernel
theorem dX1_begin_29 : decode cX1_begin 29 = .ok (.iconst 0, 1) := by decide +kernel
theorem dX1_begin_30 : decode cX1_begin 30 = .ok (.istore_n 2, 1) := by decide +kernel
theorem dX1_begin_31 : decode cX1_begin 31 = .ok (.aload_n 0, 1) := by decide +kernel
theorem dX1_begin_32 : decode cX1_begin 32 = .ok (.getfield 7, 3) := by decide +kernel
theorem dX1_begin_35 : decode cX1_begin 35 = .ok (.iload_n 2, 1) := by decide +kernel
theorem dX1_begin_36 : decode cX1_begin 36 = .ok (.baload, 1) := by decide +kernel
theorem dX1_begin_37 : decode cX1_begin 37 = .ok (.ifCond .eq 9, 3) := by decide +kernel
theorem dX1_begin_40 : decode cX1_begin 40 = .ok (.iinc 2 1, 3) := by decide +kernel
theorem dX1_begin_43 : decode cX1_begin 43 = .ok (.goto (-12), 3) := by decide +kernel
theorem dX1_begin_46 : decode cX1_begin 46 = .ok (.aload_n 0, 1) := by decide +kernel
theorem dX1_begin_47 : decode cX1_begin 47 = .ok (.getfield 7, 3) := by decide +kernel
theorem dX1_begin_50 : decode cX1_begin 50 = .ok (.iload_n 2, 1) := by decide +kernel
theorem dX1_begin_51 : decode cX1_begin 51 = .ok (.iconst 1, 1) := by decide +kernel
theorem dX1_begin_52 : decode cX1_begin 52 = .ok (.bastore, 1) := by decide +kernel
theorem dX1_begin_53 : decode cX1_begin 53 = .ok (.aload_n 0, 1) := by decide +kernel
theorem dX1_begin_54 : decode cX1_begin 54 = .ok (.getfield 13, 3) := by decide +kernel
theorem dX1_begin_57 : decode cX1_begin 57 = .ok (.iload_n 2, 1) := by decide +kernel
theorem dX1_begin_58 : decode cX1_begin 58 = .ok (.iload_n 1, 1) := by decide +kernel
theorem dX1_begin_59 : decode cX1_begin 59 = .ok (.iastore, 1) := by decide +kernel
theorem dX1_begin_60 : decode cX1_begin 60 = .ok (.aload_n 0, 1) := by decide +kernel
theorem dX1_begin_61 : decode cX1_begin 61 = .ok (.getfield 17, 3) := by decide +kernel
theorem dX1_begin_64 : decode cX1_begin 64 = .ok (.iload_n 2, 1) := by decide +kernel
theorem dX1_begin_65 : decode cX1_begin 65 = .ok (.iconst 0, 1) := by decide +kernel
theorem dX1_begin_66 : decode cX1_begin 66 = .ok (.iastore, 1) := by decide +kernel
theorem dX1_begin_67 : decode cX1_begin 67 = .ok (.aload_n 0, 1) := by decide +kernel
theorem dX1_begin_68 : decode cX1_begin 68 = .ok (.getfield 20, 3) := by decide +kernel
theorem dX1_begin_71 : decode cX1_begin 71 = .ok (.iload_n 2, 1) := by decide +kernel
theorem dX1_begin_72 : decode cX1_begin 72 = .ok (.iconst 0, 1) := by decide +kernel
theorem dX1_begin_73 : decode cX1_begin 73 = .ok (.bastore, 1) := by decide +kernel
theorem dX1_begin_74 : decode cX1_begin 74 = .ok (.aload_n 0, 1) := by decide +kernel
theorem dX1_begin_75 : decode cX1_begin 75 = .ok (.dup, 1) := by decide +kernel
theorem dX1_begin_76 : decode cX1_begin 76 = .ok (.getfield 68, 3) := by decide +kernel
theorem dX1_begin_79 : decode cX1_begin 79 = .ok (.iconst 1, 1) := by decide +kernel
theorem dX1_begin_80 : decode cX1_begin 80 = .ok (.iadd, 1) := by decide +kernel
theorem dX1_begin_81 : decode cX1_begin 81 = .ok (.putfield 68, 3) := by decide +kernel
theorem dX1_begin_84 : decode cX1_begin 84 = .ok (.aload_n 0, 1) := by decide +kernel
theorem dX1_begin_85 : decode cX1_begin 85 = .ok (.iconst 2, 1) := by decide +kernel
theorem dX1_begin_86 : decode cX1_begin 86 = .ok (.iload_n 2, 1) := by decide +kernel
theorem dX1_begin_87 : decode cX1_begin 87 = .ok (.imul, 1) := by decide +kernel
theorem dX1_begin_88 : decode cX1_begin 88 = .ok (.invokevirtual 71, 3) := by decide +kernel
theorem dX1_begin_91 : decode cX1_begin 91 = .ok (.aload_n 0, 1) := by decide +kernel
theorem dX1_begin_92 : decode cX1_begin 92 = .ok (.getfield 36, 3) := by decide +kernel
theorem dX1_begin_95 : decode cX1_begin 95 = .ok (.aload_n 0, 1) := by decide +kernel
theorem dX1_begin_96 : decode cX1_begin 96 = .ok (.getfield 65, 3) := by decide +kernel
theorem dX1_begin_99 : decode cX1_begin 99 = .ok (.iload_n 2, 1) := by decide +kernel
theorem dX1_begin_100 : decode cX1_begin 100 = .ok (.iastore, 1) := by decide +kernel
theorem dX1_begin_101 : decode cX1_begin 101 = .ok (.aload_n 0, 1) := by decide +kernel
theorem dX1_begin_102 : decode cX1_begin 102 = .ok (.getfield 39, 3) := by decide +kernel
theorem dX1_begin_105 : decode cX1_begin 105 = .ok (.aload_n 0, 1) := by decide +kernel
theorem dX1_begin_106 : decode cX1_begin 106 = .ok (.getfield 65, 3) := by decide +kernel
theorem dX1_begin_109 : decode cX1_begin 109 = .ok (.aload_n 0, 1) := by decide +kernel
theorem dX1_begin_110 : decode cX1_begin 110 = .ok (.invokevirtual 58, 3) := by decide +kernel
theorem dX1_begin_113 : decode cX1_begin 113 = .ok (.iastore, 1) := by decide +kernel
theorem dX1_begin_114 : decode cX1_begin 114 = .ok (.aload_n 0, 1) := by decide +kernel
theorem dX1_begin_115 : decode cX1_begin 115 = .ok (.dup, 1) := by decide +kernel
theorem dX1_begin_116 : decode cX1_begin 116 = .ok (.getfield 65, 3) := by decide +kernel
theorem dX1_begin_119 : decode cX1_begin 119 = .ok (.iconst 1, 1) := by decide +kernel
theorem dX1_begin_120 : decode cX1_begin 120 = .ok (.iadd, 1) := by decide +kernel
theorem dX1_begin_121 : decode cX1_begin 121 = .ok (.putfield 65, 3) := by decide +kernel
theorem dX1_begin_124 : decode cX1_begin 124 = .ok (.iload_n 2, 1) := by decide +kernel
theorem dX1_begin_125 : decode cX1_begin 125 = .ok (.ireturn, 1) := by decide +kernel
theorem dX1_last_0 : decode cX1_last 0 = .ok (.aload_n 0, 1) := by decide +kernel
theorem dX1_last_1 : decode cX1_last 1 = .ok (.getfield 26, 3) := by decide +kernel
theorem dX1_last_4 : decode cX1_last 4 = .ok (.iconst 1, 1) := by decide +kernel
theorem dX1_last_5 : decode cX1_last 5 = .ok (.isub, 1) := by decide +kernel
theorem dX1_last_6 : decode cX1_last 6 = .ok (.ireturn, 1) := by decide +kernel
theorem dX1_put_0 : decode cX1_put 0 = .ok (.aload_n 0, 1) := by decide +kernel
theorem dX1_put_1 : decode cX1_put 1 = .ok (.getfield 48, 3) := by decide +kernel
theorem dX1_put_4 : decode cX1_put 4 = .ok (.istore_n 2, 1) := by decide +kernel
theorem dX1_put_5 : decode cX1_put 5 = .ok (.iload_n 2, 1) := by decide +kernel
theorem dX1_put_6 : decode cX1_put 6 = .ok (.aload_n 0, 1) := by decide +kernel
theorem dX1_put_7 : decode cX1_put 7 = .ok (.getfield 51, 3) := by decide +kernel
theorem dX1_put_10 : decode cX1_put 10 = .ok (.if_icmp .le 23, 3) := by decide +kernel
theorem dX1_put_13 : decode cX1_put 13 = .ok (.aload_n 0, 1) := by decide +kernel
theorem dX1_put_14 : decode cX1_put 14 = .ok (.getfield 23, 3) := by decide +kernel
theorem dX1_put_17 : decode cX1_put 17 = .ok (.iload_n 2, 1) := by decide +kernel
theorem dX1_put_18 : decode cX1_put 18 = .ok (.aload_n 0, 1) := by decide +kernel
theorem dX1_put_19 : decode cX1_put 19 = .ok (.getfield 23, 3) := by decide +kernel
theorem dX1_put_22 : decode cX1_put 22 = .ok (.iload_n 2, 1) := by decide +kernel
theorem dX1_put_23 : decode cX1_put 23 = .ok (.iconst 1, 1) := by decide +kernel
theorem dX1_put_24 : decode cX1_put 24 = .ok (.isub, 1) := by decide +kernel
theorem dX1_put_25 : decode cX1_put 25 = .ok (.iaload, 1) := by decide +kernel
theorem dX1_put_26 : decode cX1_put 26 = .ok (.iastore, 1) := by decide +kernel
theorem dX1_put_27 : decode cX1_put 27 = .ok (.iinc 2 (-1), 3) := by decide +kernel
theorem dX1_put_30 : decode cX1_put 30 = .ok (.goto (-25), 3) := by decide +kernel
theorem dX1_put_33 : decode cX1_put 33 = .ok (.aload_n 0, 1) := by decide +kernel
theorem dX1_put_34 : decode cX1_put 34 = .ok (.getfield 23, 3) := by decide +kernel
theorem dX1_put_37 : decode cX1_put 37 = .ok (.aload_n 0, 1) := by decide +kernel
theorem dX1_put_38 : decode cX1_put 38 = .ok (.getfield 51, 3) := by decide +kernel
theorem dX1_put_41 : decode cX1_put 41 = .ok (.iload_n 1, 1) := by decide +kernel
theorem dX1_put_42 : decode cX1_put 42 = .ok (.iastore, 1) := by decide +kernel
theorem dX1_put_43 : decode cX1_put 43 = .ok (.aload_n 0, 1) := by decide +kernel
theorem dX1_put_44 : decode cX1_put 44 = .ok (.dup, 1) := by decide +kernel
theorem dX1_put_45 : decode cX1_put 45 = .ok (.getfield 48, 3) := by decide +kernel
theorem dX1_put_48 : decode cX1_put 48 = .ok (.iconst 1, 1) := by decide +kernel
theorem dX1_put_49 : decode cX1_put 49 = .ok (.iadd, 1) := by decide +kernel
theorem dX1_put_50 : decode cX1_put 50 = .ok (.putfield 48, 3) := by decide +kernel
theorem dX1_put_53 : decode cX1_put 53 = .ok (.aload_n 0, 1) := by decide +kernel
theorem dX1_put_54 : decode cX1_put 54 = .ok (.dup, 1) := by decide +kernel
theorem dX1_put_55 : decode cX1_put 55 = .ok (.getfield 51, 3) := by decide +kernel
theorem dX1_put_58 : decode cX1_put 58 = .ok (.iconst 1, 1) := by decide +kernel
theorem dX1_put_59 : decode cX1_put 59 = .ok (.iadd, 1) := by decide +kernel
theorem dX1_put_60 : decode cX1_put 60 = .ok (.putfield 51, 3) := by decide +kernel
theorem dX1_put_63 : decode cX1_put 63 = .ok (.return_, 1) := by decide +kernel
theorem dX1_end_0 : decode cX1_end 0 = .ok (.aload_n 0, 1) := by decide +kernel
theorem dX1_end_1 : decode cX1_end 1 = .ok (.iconst 0, 1) := by decide +kernel
theorem dX1_end_2 : decode cX1_end 2 = .ok (.putfield 45, 3) := by decide +kernel
theorem dX1_end_5 : decode cX1_end 5 = .ok (.aload_n 0, 1) := by decide +kernel
theorem dX1_end_6 : decode cX1_end 6 = .ok (.invokevirtual 75, 3) := by decide +kernel
theorem dX1_end_9 : decode cX1_end 9 = .ok (.ifCond .ne 5, 3) := by decide +kernel
theorem dX1_end_12 : decode cX1_end 12 = .ok (.iconst (-1), 1) := by decide +kernel
theorem dX1_end_13 : decode cX1_end 13 = .ok (.ireturn, 1) := by decide +kernel
theorem dX1_end_14 : decode cX1_end 14 = .ok (.aload_n 0, 1) := by decide +kernel
theorem dX1_end_15 : decode cX1_end 15 = .ok (.dup, 1) := by decide +kernel
theorem dX1_end_16 : decode cX1_end 16 = .ok (.getfield 65, 3) := by decide +kernel
theorem dX1_end_19 : decode cX1_end 19 = .ok (.iconst 1, 1) := by decide +kernel
theorem dX1_end_20 : decode cX1_end 20 = .ok (.isub, 1) := by decide +kernel
theorem dX1_end_21 : decode cX1_end 21 = .ok (.putfield 65, 3) := by decide +kernel
theorem dX1_end_24 : decode cX1_end 24 = .ok (.aload_n 0, 1) := by decide +kernel
theorem dX1_end_25 : decode cX1_end 25 = .ok (.iconst 2, 1) := by decide +kernel
theorem dX1_end_26 : decode cX1_end 26 = .ok (.aload_n 0, 1) := by decide +kernel
theorem dX1_end_27 : decode cX1_end 27 = .ok (.getfield 36, 3) := by decide +kernel
theorem dX1_end_30 : decode cX1_end 30 = .ok (.aload_n 0, 1) := by decide +kernel
theorem dX1_end_31 : decode cX1_end 31 = .ok (.getfield 65, 3) := by decide +kernel
theorem dX1_end_34 : decode cX1_end 34 = .ok (.iaload, 1) := by decide +kernel
theorem dX1_end_35 : decode cX1_end 35 = .ok (.imul, 1) := by decide +kernel
theorem dX1_end_36 : decode cX1_end 36 = .ok (.iconst 1, 1) := by decide +kernel
theorem dX1_end_37 : decode cX1_end 37 = .ok (.iadd, 1) := by decide +kernel
theorem dX1_end_38 : decode cX1_end 38 = .ok (.invokevirtual 71, 3) := by decide +kernel
theorem dX1_end_41 : decode cX1_end 41 = .ok (.aload_n 0, 1) := by decide +kernel
theorem dX1_end_42 : decode cX1_end 42 = .ok (.getfield 36, 3) := by decide +kernel
theorem dX1_end_45 : decode cX1_end 45 = .ok (.aload_n 0, 1) := by decide +kernel
theorem dX1_end_46 : decode cX1_end 46 = .ok (.getfield 65, 3) := by decide +kernel
theorem dX1_end_49 : decode cX1_end 49 = .ok (.iaload, 1) := by decide +kernel
theorem dX1_end_50 : decode cX1_end 50 = .ok (.ireturn, 1) := by decide +kernel
theorem dX1_hasOpen_0 : decode cX1_hasOpen 0 = .ok (.aload_n 0, 1) := by decide +kernel
theorem dX1_hasOpen_1 : decode cX1_hasOpen 1 = .ok (.getfield 65, 3) := by decide +kernel
theorem dX1_hasOpen_4 : decode cX1_hasOpen 4 = .ok (.ifCond .le 25, 3) := by decide +kernel
theorem dX1_hasOpen_7 : decode cX1_hasOpen 7 = .ok (.aload_n 0, 1) := by decide +kernel
theorem dX1_hasOpen_8 : decode cX1_hasOpen 8 = .ok (.getfield 39, 3) := by decide +kernel
theorem dX1_hasOpen_11 : decode cX1_hasOpen 11 = .ok (.aload_n 0, 1) := by decide +kernel
theorem dX1_hasOpen_12 : decode cX1_hasOpen 12 = .ok (.getfield 65, 3) := by decide +kernel
theorem dX1_hasOpen_15 : decode cX1_hasOpen 15 = .ok (.iconst 1, 1) := by decide +kernel
theorem dX1_hasOpen_16 : decode cX1_hasOpen 16 = .ok (.isub, 1) := by decide +kernel
theorem dX1_hasOpen_17 : decode cX1_hasOpen 17 = .ok (.iaload, 1) := by decide +kernel
theorem dX1_hasOpen_18 : decode cX1_hasOpen 18 = .ok (.aload_n 0, 1) := by decide +kernel
theorem dX1_hasOpen_19 : decode cX1_hasOpen 19 = .ok (.invokevirtual 58, 3) := by decide +kernel
theorem dX1_hasOpen_22 : decode cX1_hasOpen 22 = .ok (.if_icmp .ne 7, 3) := by decide +kernel
theorem dX1_hasOpen_25 : decode cX1_hasOpen 25 = .ok (.iconst 1, 1) := by decide +kernel
theorem dX1_hasOpen_26 : decode cX1_hasOpen 26 = .ok (.goto 4, 3) := by decide +kernel
theorem dX1_hasOpen_29 : decode cX1_hasOpen 29 = .ok (.iconst 0, 1) := by decide +kernel
theorem dX1_hasOpen_30 : decode cX1_hasOpen 30 = .ok (.ireturn, 1) := by decide +kernel
theorem dX1_weigh_0 : decode cX1_weigh 0 = .ok (.aload_n 0, 1) := by decide +kernel
theorem dX1_weigh_1 : decode cX1_weigh 1 = .ok (.iconst 0, 1) := by decide +kernel
theorem dX1_weigh_2 : decode cX1_weigh 2 = .ok (.putfield 45, 3) := by decide +kernel
theorem dX1_weigh_5 : decode cX1_weigh 5 = .ok (.iload_n 1, 1) := by decide +kernel
theorem dX1_weigh_6 : decode cX1_weigh 6 = .ok (.ifCond .lt 29, 3) := by decide +kernel
theorem dX1_weigh_9 : decode cX1_weigh 9 = .ok (.aload_n 0, 1) := by decide +kernel
theorem dX1_weigh_10 : decode cX1_weigh 10 = .ok (.getfield 33, 3) := by decide +kernel
theorem dX1_weigh_13 : decode cX1_weigh 13 = .ok (.aload_n 0, 1) := by decide +kernel
theorem dX1_weigh_14 : decode cX1_weigh 14 = .ok (.invokevirtual 58, 3) := by decide +kernel
theorem dX1_weigh_17 : decode cX1_weigh 17 = .ok (.baload, 1) := by decide +kernel
theorem dX1_weigh_18 : decode cX1_weigh 18 = .ok (.ifCond .ne 17, 3) := by decide +kernel
theorem dX1_weigh_21 : decode cX1_weigh 21 = .ok (.aload_n 0, 1) := by decide +kernel
theorem dX1_weigh_22 : decode cX1_weigh 22 = .ok (.invokevirtual 82, 3) := by decide +kernel
theorem dX1_weigh_25 : decode cX1_weigh 25 = .ok (.iload_n 1, 1) := by decide +kernel
theorem dX1_weigh_26 : decode cX1_weigh 26 = .ok (.i2l, 1) := by decide +kernel
theorem dX1_weigh_27 : decode cX1_weigh 27 = .ok (.ladd, 1) := by decide +kernel
theorem dX1_weigh_28 : decode cX1_weigh 28 = .ok (.ldc2_w 86, 3) := by decide +kernel
theorem dX1_weigh_31 : decode cX1_weigh 31 = .ok (.lcmp, 1) := by decide +kernel
theorem dX1_weigh_32 : decode cX1_weigh 32 = .ok (.ifCond .le 5, 3) := by decide +kernel
theorem dX1_weigh_35 : decode cX1_weigh 35 = .ok (.iconst 0, 1) := by decide +kernel
theorem dX1_weigh_36 : decode cX1_weigh 36 = .ok (.ireturn, 1) := by decide +kernel
theorem dX1_weigh_37 : decode cX1_weigh 37 = .ok (.aload_n 0, 1) := by decide +kernel
theorem dX1_weigh_38 : decode cX1_weigh 38 = .ok (.invokevirtual 75, 3) := by decide +kernel
theorem dX1_weigh_41 : decode cX1_weigh 41 = .ok (.ifCond .eq 17, 3) := by decide +kernel
theorem dX1_weigh_44 : decode cX1_weigh 44 = .ok (.aload_n 0, 1) := by decide +kernel
theorem dX1_weigh_45 : decode cX1_weigh 45 = .ok (.getfield 36, 3) := by decide +kernel
theorem dX1_weigh_48 : decode cX1_weigh 48 = .ok (.aload_n 0, 1) := by decide +kernel
theorem dX1_weigh_49 : decode cX1_weigh 49 = .ok (.getfield 65, 3) := by decide +kernel
theorem dX1_weigh_52 : decode cX1_weigh 52 = .ok (.iconst 1, 1) := by decide +kernel
theorem dX1_weigh_53 : decode cX1_weigh 53 = .ok (.isub, 1) := by decide +kernel
theorem dX1_weigh_54 : decode cX1_weigh 54 = .ok (.iaload, 1) := by decide +kernel
theorem dX1_weigh_55 : decode cX1_weigh 55 = .ok (.goto 12, 3) := by decide +kernel
theorem dX1_weigh_58 : decode cX1_weigh 58 = .ok (.aload_n 0, 1) := by decide +kernel
theorem dX1_weigh_59 : decode cX1_weigh 59 = .ok (.getfield 30, 3) := by decide +kernel
theorem dX1_weigh_62 : decode cX1_weigh 62 = .ok (.aload_n 0, 1) := by decide +kernel
theorem dX1_weigh_63 : decode cX1_weigh 63 = .ok (.invokevirtual 58, 3) := by decide +kernel
theorem dX1_weigh_66 : decode cX1_weigh 66 = .ok (.iaload, 1) := by decide +kernel
theorem dX1_weigh_67 : decode cX1_weigh 67 = .ok (.istore_n 2, 1) := by decide +kernel
theorem dX1_weigh_68 : decode cX1_weigh 68 = .ok (.iload_n 2, 1) := by decide +kernel
theorem dX1_weigh_69 : decode cX1_weigh 69 = .ok (.ifCond .ge 16, 3) := by decide +kernel
theorem dX1_weigh_72 : decode cX1_weigh 72 = .ok (.aload_n 0, 1) := by decide +kernel
theorem dX1_weigh_73 : decode cX1_weigh 73 = .ok (.dup, 1) := by decide +kernel
theorem dX1_weigh_74 : decode cX1_weigh 74 = .ok (.getfield 79, 3) := by decide +kernel
theorem dX1_weigh_77 : decode cX1_weigh 77 = .ok (.iload_n 1, 1) := by decide +kernel
theorem dX1_weigh_78 : decode cX1_weigh 78 = .ok (.iadd, 1) := by decide +kernel
theorem dX1_weigh_79 : decode cX1_weigh 79 = .ok (.putfield 79, 3) := by decide +kernel
theorem dX1_weigh_82 : decode cX1_weigh 82 = .ok (.goto 13, 3) := by decide +kernel
theorem dX1_weigh_85 : decode cX1_weigh 85 = .ok (.aload_n 0, 1) := by decide +kernel
theorem dX1_weigh_86 : decode cX1_weigh 86 = .ok (.getfield 17, 3) := by decide +kernel
theorem dX1_weigh_89 : decode cX1_weigh 89 = .ok (.iload_n 2, 1) := by decide +kernel
theorem dX1_weigh_90 : decode cX1_weigh 90 = .ok (.dup2, 1) := by decide +kernel
theorem dX1_weigh_91 : decode cX1_weigh 91 = .ok (.iaload, 1) := by decide +kernel
theorem dX1_weigh_92 : decode cX1_weigh 92 = .ok (.iload_n 1, 1) := by decide +kernel
theorem dX1_weigh_93 : decode cX1_weigh 93 = .ok (.iadd, 1) := by decide +kernel
theorem dX1_weigh_94 : decode cX1_weigh 94 = .ok (.iastore, 1) := by decide +kernel
theorem dX1_weigh_95 : decode cX1_weigh 95 = .ok (.iconst 1, 1) := by decide +kernel
theorem dX1_weigh_96 : decode cX1_weigh 96 = .ok (.ireturn, 1) := by decide +kernel
theorem dX1_allWeights_0 : decode cX1_allWeights 0 = .ok (.aload_n 0, 1) := by decide +kernel
theorem dX1_allWeights_1 : decode cX1_allWeights 1 = .ok (.getfield 79, 3) := by decide +kernel
theorem dX1_allWeights_4 : decode cX1_allWeights 4 = .ok (.i2l, 1) := by decide +kernel
theorem dX1_allWeights_5 : decode cX1_allWeights 5 = .ok (.lstore_n 1, 1) := by decide +kernel
theorem dX1_allWeights_6 : decode cX1_allWeights 6 = .ok (.iconst 0, 1) := by decide +kernel
theorem dX1_allWeights_7 : decode cX1_allWeights 7 = .ok (.istore_n 3, 1) := by decide +kernel
theorem dX1_allWeights_8 : decode cX1_allWeights 8 = .ok (.iload_n 3, 1) := by decide +kernel
theorem dX1_allWeights_9 : decode cX1_allWeights 9 = .ok (.sipush 600, 3) := by decide +kernel
theorem dX1_allWeights_12 : decode cX1_allWeights 12 = .ok (.if_icmp .ge 32, 3) := by decide +kernel
theorem dX1_allWeights_15 : decode cX1_allWeights 15 = .ok (.lload_n 1, 1) := by decide +kernel
theorem dX1_allWeights_16 : decode cX1_allWeights 16 = .ok (.aload_n 0, 1) := by decide +kernel
theorem dX1_allWeights_17 : decode cX1_allWeights 17 = .ok (.getfield 7, 3) := by decide +kernel
theorem dX1_allWeights_20 : decode cX1_allWeights 20 = .ok (.iload_n 3, 1) := by decide +kernel
theorem dX1_allWeights_21 : decode cX1_allWeights 21 = .ok (.baload, 1) := by decide +kernel
theorem dX1_allWeights_22 : decode cX1_allWeights 22 = .ok (.ifCond .eq 13, 3) := by decide +kernel
theorem dX1_allWeights_25 : decode cX1_allWeights 25 = .ok (.aload_n 0, 1) := by decide +kernel
theorem dX1_allWeights_26 : decode cX1_allWeights 26 = .ok (.getfield 17, 3) := by decide +kernel
theorem dX1_allWeights_29 : decode cX1_allWeights 29 = .ok (.iload_n 3, 1) := by decide +kernel
theorem dX1_allWeights_30 : decode cX1_allWeights 30 = .ok (.iaload, 1) := by decide +kernel
theorem dX1_allWeights_31 : decode cX1_allWeights 31 = .ok (.i2l, 1) := by decide +kernel
theorem dX1_allWeights_32 : decode cX1_allWeights 32 = .ok (.goto 4, 3) := by decide +kernel
theorem dX1_allWeights_35 : decode cX1_allWeights 35 = .ok (.lconst 0, 1) := by decide +kernel
theorem dX1_allWeights_36 : decode cX1_allWeights 36 = .ok (.ladd, 1) := by decide +kernel
theorem dX1_allWeights_37 : decode cX1_allWeights 37 = .ok (.lstore_n 1, 1) := by decide +kernel
theorem dX1_allWeights_38 : decode cX1_allWeights 38 = .ok (.iinc 3 1, 3) := by decide +kernel
theorem dX1_allWeights_41 : decode cX1_allWeights 41 = .ok (.goto (-33), 3) := by decide +kernel
theorem dX1_allWeights_44 : decode cX1_allWeights 44 = .ok (.lload_n 1, 1) := by decide +kernel
theorem dX1_allWeights_45 : decode cX1_allWeights 45 = .ok (.lreturn, 1) := by decide +kernel
theorem dX1_stale_0 : decode cX1_stale 0 = .ok (.aload_n 0, 1) := by decide +kernel
theorem dX1_stale_1 : decode cX1_stale 1 = .ok (.iconst 0, 1) := by decide +kernel
theorem dX1_stale_2 : decode cX1_stale 2 = .ok (.putfield 45, 3) := by decide +kernel
theorem dX1_stale_5 : decode cX1_stale 5 = .ok (.aload_n 0, 1) := by decide +kernel
theorem dX1_stale_6 : decode cX1_stale 6 = .ok (.iload_n 1, 1) := by decide +kernel
theorem dX1_stale_7 : decode cX1_stale 7 = .ok (.invokevirtual 88, 3) := by decide +kernel
theorem dX1_stale_10 : decode cX1_stale 10 = .ok (.ifCond .eq 20, 3) := by decide +kernel
theorem dX1_stale_13 : decode cX1_stale 13 = .ok (.aload_n 0, 1) := by decide +kernel
theorem dX1_stale_14 : decode cX1_stale 14 = .ok (.iload_n 1, 1) := by decide +kernel
theorem dX1_stale_15 : decode cX1_stale 15 = .ok (.invokevirtual 92, 3) := by decide +kernel
theorem dX1_stale_18 : decode cX1_stale 18 = .ok (.ifCond .eq 12, 3) := by decide +kernel
theorem dX1_stale_21 : decode cX1_stale 21 = .ok (.aload_n 0, 1) := by decide +kernel
theorem dX1_stale_22 : decode cX1_stale 22 = .ok (.getfield 20, 3) := by decide +kernel
theorem dX1_stale_25 : decode cX1_stale 25 = .ok (.iload_n 1, 1) := by decide +kernel
theorem dX1_stale_26 : decode cX1_stale 26 = .ok (.baload, 1) := by decide +kernel
theorem dX1_stale_27 : decode cX1_stale 27 = .ok (.ifCond .eq 5, 3) := by decide +kernel
theorem dX1_stale_30 : decode cX1_stale 30 = .ok (.iconst 0, 1) := by decide +kernel
theorem dX1_stale_31 : decode cX1_stale 31 = .ok (.ireturn, 1) := by decide +kernel
theorem dX1_stale_32 : decode cX1_stale 32 = .ok (.aload_n 0, 1) := by decide +kernel
theorem dX1_stale_33 : decode cX1_stale 33 = .ok (.getfield 20, 3) := by decide +kernel
theorem dX1_stale_36 : decode cX1_stale 36 = .ok (.iload_n 1, 1) := by decide +kernel
theorem dX1_stale_37 : decode cX1_stale 37 = .ok (.iconst 1, 1) := by decide +kernel
theorem dX1_stale_38 : decode cX1_stale 38 = .ok (.bastore, 1) := by decide +kernel
theorem dX1_stale_39 : decode cX1_stale 39 = .ok (.iconst 1, 1) := by decide +kernel
theorem dX1_stale_40 : decode cX1_stale 40 = .ok (.ireturn, 1) := by decide +kernel
theorem dX1_isThere_0 : decode cX1_isThere 0 = .ok (.iload_n 1, 1) := by decide +kernel
theorem dX1_isThere_1 : decode cX1_isThere 1 = .ok (.ifCond .lt 23, 3) := by decide +kernel
theorem dX1_isThere_4 : decode cX1_isThere 4 = .ok (.iload_n 1, 1) := by decide +kernel
theorem dX1_isThere_5 : decode cX1_isThere 5 = .ok (.sipush 600, 3) := by decide +kernel
theorem dX1_isThere_8 : decode cX1_isThere 8 = .ok (.if_icmp .ge 16, 3) := by decide +kernel
theorem dX1_isThere_11 : decode cX1_isThere 11 = .ok (.aload_n 0, 1) := by decide +kernel
theorem dX1_isThere_12 : decode cX1_isThere 12 = .ok (.getfield 7, 3) := by decide +kernel
theorem dX1_isThere_15 : decode cX1_isThere 15 = .ok (.iload_n 1, 1) := by decide +kernel
theorem dX1_isThere_16 : decode cX1_isThere 16 = .ok (.baload, 1) := by decide +kernel
theorem dX1_isThere_17 : decode cX1_isThere 17 = .ok (.ifCond .eq 7, 3) := by decide +kernel
theorem dX1_isThere_20 : decode cX1_isThere 20 = .ok (.iconst 1, 1) := by decide +kernel
theorem dX1_isThere_21 : decode cX1_isThere 21 = .ok (.goto 4, 3) := by decide +kernel
theorem dX1_isThere_24 : decode cX1_isThere 24 = .ok (.iconst 0, 1) := by decide +kernel
theorem dX1_isThere_25 : decode cX1_isThere 25 = .ok (.ireturn, 1) := by decide +kernel
theorem dX1_isEnded_0 : decode cX1_isEnded 0 = .ok (.aload_n 0, 1) := by decide +kernel
theorem dX1_isEnded_1 : decode cX1_isEnded 1 = .ok (.iconst 2, 1) := by decide +kernel
theorem dX1_isEnded_2 : decode cX1_isEnded 2 = .ok (.iload_n 1, 1) := by decide +kernel
theorem dX1_isEnded_3 : decode cX1_isEnded 3 = .ok (.imul, 1) := by decide +kernel
theorem dX1_isEnded_4 : decode cX1_isEnded 4 = .ok (.iconst 1, 1) := by decide +kernel
theorem dX1_isEnded_5 : decode cX1_isEnded 5 = .ok (.iadd, 1) := by decide +kernel
theorem dX1_isEnded_6 : decode cX1_isEnded 6 = .ok (.invokevirtual 54, 3) := by decide +kernel
theorem dX1_isEnded_9 : decode cX1_isEnded 9 = .ok (.ifCond .lt 7, 3) := by decide +kernel
theorem dX1_isEnded_12 : decode cX1_isEnded 12 = .ok (.iconst 1, 1) := by decide +kernel
theorem dX1_isEnded_13 : decode cX1_isEnded 13 = .ok (.goto 4, 3) := by decide +kernel
theorem dX1_isEnded_16 : decode cX1_isEnded 16 = .ok (.iconst 0, 1) := by decide +kernel
theorem dX1_isEnded_17 : decode cX1_isEnded 17 = .ok (.ireturn, 1) := by decide +kernel
theorem dX1_find_0 : decode cX1_find 0 = .ok (.iconst 0, 1) := by decide +kernel
theorem dX1_find_1 : decode cX1_find 1 = .ok (.istore_n 2, 1) := by decide +kernel
theorem dX1_find_2 : decode cX1_find 2 = .ok (.iload_n 2, 1) := by decide +kernel
theorem dX1_find_3 : decode cX1_find 3 = .ok (.aload_n 0, 1) := by decide +kernel
theorem dX1_find_4 : decode cX1_find 4 = .ok (.getfield 48, 3) := by decide +kernel
theorem dX1_find_7 : decode cX1_find 7 = .ok (.if_icmp .ge 21, 3) := by decide +kernel
theorem dX1_find_10 : decode cX1_find 10 = .ok (.aload_n 0, 1) := by decide +kernel
theorem dX1_find_11 : decode cX1_find 11 = .ok (.getfield 23, 3) := by decide +kernel
theorem dX1_find_14 : decode cX1_find 14 = .ok (.iload_n 2, 1) := by decide +kernel
theorem dX1_find_15 : decode cX1_find 15 = .ok (.iaload, 1) := by decide +kernel
theorem dX1_find_16 : decode cX1_find 16 = .ok (.iload_n 1, 1) := by decide +kernel
theorem dX1_find_17 : decode cX1_find 17 = .ok (.if_icmp .ne 5, 3) := by decide +kernel
theorem dX1_find_20 : decode cX1_find 20 = .ok (.iload_n 2, 1) := by decide +kernel
theorem dX1_find_21 : decode cX1_find 21 = .ok (.ireturn, 1) := by decide +kernel
theorem dX1_find_22 : decode cX1_find 22 = .ok (.iinc 2 1, 3) := by decide +kernel
theorem dX1_find_25 : decode cX1_find 25 = .ok (.goto (-23), 3) := by decide +kernel
theorem dX1_find_28 : decode cX1_find 28 = .ok (.iconst (-1), 1) := by decide +kernel
theorem dX1_find_29 : decode cX1_find 29 = .ok (.ireturn, 1) := by decide +kernel
theorem dX1_resume_0 : decode cX1_resume 0 = .ok (.aload_n 0, 1) := by decide +kernel
theorem dX1_resume_1 : decode cX1_resume 1 = .ok (.iconst 0, 1) := by decide +kernel
theorem dX1_resume_2 : decode cX1_resume 2 = .ok (.putfield 45, 3) := by decide +kernel
theorem dX1_resume_5 : decode cX1_resume 5 = .ok (.aload_n 0, 1) := by decide +kernel
theorem dX1_resume_6 : decode cX1_resume 6 = .ok (.getfield 26, 3) := by decide +kernel
theorem dX1_resume_9 : decode cX1_resume 9 = .ok (.iconst 1, 1) := by decide +kernel
theorem dX1_resume_10 : decode cX1_resume 10 = .ok (.if_icmp .le 19, 3) := by decide +kernel
theorem dX1_resume_13 : decode cX1_resume 13 = .ok (.aload_n 0, 1) := by decide +kernel
theorem dX1_resume_14 : decode cX1_resume 14 = .ok (.getfield 33, 3) := by decide +kernel
theorem dX1_resume_17 : decode cX1_resume 17 = .ok (.aload_n 0, 1) := by decide +kernel
theorem dX1_resume_18 : decode cX1_resume 18 = .ok (.invokevirtual 58, 3) := by decide +kernel
theorem dX1_resume_21 : decode cX1_resume 21 = .ok (.baload, 1) := by decide +kernel
theorem dX1_resume_22 : decode cX1_resume 22 = .ok (.ifCond .ne 7, 3) := by decide +kernel
theorem dX1_resume_25 : decode cX1_resume 25 = .ok (.iconst 1, 1) := by decide +kernel
theorem dX1_resume_26 : decode cX1_resume 26 = .ok (.goto 4, 3) := by decide +kernel
theorem dX1_resume_29 : decode cX1_resume 29 = .ok (.iconst 0, 1) := by decide +kernel
theorem dX1_resume_30 : decode cX1_resume 30 = .ok (.istore_n 1, 1) := by decide +kernel
theorem dX1_resume_31 : decode cX1_resume 31 = .ok (.iload_n 1, 1) := by decide +kernel
theorem dX1_resume_32 : decode cX1_resume 32 = .ok (.ifCond .ne 19, 3) := by decide +kernel
theorem dX1_resume_35 : decode cX1_resume 35 = .ok (.aload_n 0, 1) := by decide +kernel
theorem dX1_resume_36 : decode cX1_resume 36 = .ok (.invokevirtual 75, 3) := by decide +kernel
theorem dX1_resume_39 : decode cX1_resume 39 = .ok (.ifCond .ne 12, 3) := by decide +kernel
theorem dX1_resume_42 : decode cX1_resume 42 = .ok (.aload_n 0, 1) := by decide +kernel
theorem dX1_resume_43 : decode cX1_resume 43 = .ok (.getfield 26, 3) := by decide +kernel
theorem dX1_resume_46 : decode cX1_resume 46 = .ok (.bipush 64, 2) := by decide +kernel
theorem dX1_resume_48 : decode cX1_resume 48 = .ok (.if_icmp .ne 5, 3) := by decide +kernel
theorem dX1_resume_51 : decode cX1_resume 51 = .ok (.iconst (-1), 1) := by decide +kernel
theorem dX1_resume_52 : decode cX1_resume 52 = .ok (.ireturn, 1) := by decide +kernel
theorem dX1_resume_53 : decode cX1_resume 53 = .ok (.aload_n 0, 1) := by decide +kernel
theorem dX1_resume_54 : decode cX1_resume 54 = .ok (.invokevirtual 62, 3) := by decide +kernel
theorem dX1_resume_57 : decode cX1_resume 57 = .ok (.istore_n 2, 1) := by decide +kernel
theorem dX1_resume_58 : decode cX1_resume 58 = .ok (.aload_n 0, 1) := by decide +kernel
theorem dX1_resume_59 : decode cX1_resume 59 = .ok (.getfield 51, 3) := by decide +kernel
theorem dX1_resume_62 : decode cX1_resume 62 = .ok (.istore_n 3, 1) := by decide +kernel
theorem dX1_resume_63 : decode cX1_resume 63 = .ok (.iload_n 3, 1) := by decide +kernel
theorem dX1_resume_64 : decode cX1_resume 64 = .ok (.iload_n 2, 1) := by decide +kernel
theorem dX1_resume_65 : decode cX1_resume 65 = .ok (.if_icmp .ge 66, 3) := by decide +kernel
theorem dX1_resume_68 : decode cX1_resume 68 = .ok (.aload_n 0, 1) := by decide +kernel
theorem dX1_resume_69 : decode cX1_resume 69 = .ok (.getfield 23, 3) := by decide +kernel
theorem dX1_resume_72 : decode cX1_resume 72 = .ok (.iload_n 3, 1) := by decide +kernel
theorem dX1_resume_73 : decode cX1_resume 73 = .ok (.iaload, 1) := by decide +kernel
theorem dX1_resume_74 : decode cX1_resume 74 = .ok (.iconst 2, 1) := by decide +kernel
theorem dX1_resume_75 : decode cX1_resume 75 = .ok (.idiv, 1) := by decide +kernel
theorem dX1_resume_76 : decode cX1_resume 76 = .ok (.istore 4, 2) := by decide +kernel
theorem dX1_resume_78 : decode cX1_resume 78 = .ok (.aload_n 0, 1) := by decide +kernel
theorem dX1_resume_79 : decode cX1_resume 79 = .ok (.getfield 23, 3) := by decide +kernel
theorem dX1_resume_82 : decode cX1_resume 82 = .ok (.iload_n 3, 1) := by decide +kernel
theorem dX1_resume_83 : decode cX1_resume 83 = .ok (.iaload, 1) := by decide +kernel
theorem dX1_resume_84 : decode cX1_resume 84 = .ok (.iconst 2, 1) := by decide +kernel
theorem dX1_resume_85 : decode cX1_resume 85 = .ok (.irem, 1) := by decide +kernel
theorem dX1_resume_86 : decode cX1_resume 86 = .ok (.ifCond .ne 39, 3) := by decide +kernel
theorem dX1_resume_89 : decode cX1_resume 89 = .ok (.aload_n 0, 1) := by decide +kernel
theorem dX1_resume_90 : decode cX1_resume 90 = .ok (.getfield 20, 3) := by decide +kernel
theorem dX1_resume_93 : decode cX1_resume 93 = .ok (.iload 4, 2) := by decide +kernel
theorem dX1_resume_95 : decode cX1_resume 95 = .ok (.baload, 1) := by decide +kernel
theorem dX1_resume_96 : decode cX1_resume 96 = .ok (.ifCond .eq 29, 3) := by decide +kernel
theorem dX1_resume_99 : decode cX1_resume 99 = .ok (.aload_n 0, 1) := by decide +kernel
theorem dX1_resume_100 : decode cX1_resume 100 = .ok (.getfield 20, 3) := by decide +kernel
theorem dX1_resume_103 : decode cX1_resume 103 = .ok (.iload 4, 2) := by decide +kernel
theorem dX1_resume_105 : decode cX1_resume 105 = .ok (.iconst 0, 1) := by decide +kernel
theorem dX1_resume_106 : decode cX1_resume 106 = .ok (.bastore, 1) := by decide +kernel
theorem dX1_resume_107 : decode cX1_resume 107 = .ok (.aload_n 0, 1) := by decide +kernel
theorem dX1_resume_108 : decode cX1_resume 108 = .ok (.getfield 17, 3) := by decide +kernel
theorem dX1_resume_111 : decode cX1_resume 111 = .ok (.iload 4, 2) := by decide +kernel
theorem dX1_resume_113 : decode cX1_resume 113 = .ok (.iconst 0, 1) := by decide +kernel
theorem dX1_resume_114 : decode cX1_resume 114 = .ok (.iastore, 1) := by decide +kernel
theorem dX1_resume_115 : decode cX1_resume 115 = .ok (.aload_n 0, 1) := by decide +kernel
theorem dX1_resume_116 : decode cX1_resume 116 = .ok (.iload 4, 2) := by decide +kernel
theorem dX1_resume_118 : decode cX1_resume 118 = .ok (.iconst 0, 1) := by decide +kernel
theorem dX1_resume_119 : decode cX1_resume 119 = .ok (.invokevirtual 95, 3) := by decide +kernel
theorem dX1_resume_122 : decode cX1_resume 122 = .ok (.iload 4, 2) := by decide +kernel
theorem dX1_resume_124 : decode cX1_resume 124 = .ok (.ireturn, 1) := by decide +kernel
theorem dX1_resume_125 : decode cX1_resume 125 = .ok (.iinc 3 1, 3) := by decide +kernel
theorem dX1_resume_128 : decode cX1_resume 128 = .ok (.goto (-65), 3) := by decide +kernel
theorem dX1_resume_131 : decode cX1_resume 131 = .ok (.iconst (-1), 1) := by decide +kernel
theorem dX1_resume_132 : decode cX1_resume 132 = .ok (.ireturn, 1) := by decide +kernel
theorem dX1_limit_0 : decode cX1_limit 0 = .ok (.aload_n 0, 1) := by decide +kernel
theorem dX1_limit_1 : decode cX1_limit 1 = .ok (.getfield 26, 3) := by decide +kernel
theorem dX1_limit_4 : decode cX1_limit 4 = .ok (.iconst 1, 1) := by decide +kernel
theorem dX1_limit_5 : decode cX1_limit 5 = .ok (.if_icmp .ne 10, 3) := by decide +kernel
theorem dX1_limit_8 : decode cX1_limit 8 = .ok (.aload_n 0, 1) := by decide +kernel
theorem dX1_limit_9 : decode cX1_limit 9 = .ok (.getfield 48, 3) := by decide +kernel
theorem dX1_limit_12 : decode cX1_limit 12 = .ok (.goto 20, 3) := by decide +kernel
theorem dX1_limit_15 : decode cX1_limit 15 = .ok (.aload_n 0, 1) := by decide +kernel
theorem dX1_limit_16 : decode cX1_limit 16 = .ok (.iconst 2, 1) := by decide +kernel
theorem dX1_limit_17 : decode cX1_limit 17 = .ok (.aload_n 0, 1) := by decide +kernel
theorem dX1_limit_18 : decode cX1_limit 18 = .ok (.getfield 30, 3) := by decide +kernel
theorem dX1_limit_21 : decode cX1_limit 21 = .ok (.aload_n 0, 1) := by decide +kernel
theorem dX1_limit_22 : decode cX1_limit 22 = .ok (.invokevirtual 58, 3) := by decide +kernel
theorem dX1_limit_25 : decode cX1_limit 25 = .ok (.iaload, 1) := by decide +kernel
theorem dX1_limit_26 : decode cX1_limit 26 = .ok (.imul, 1) := by decide +kernel
theorem dX1_limit_27 : decode cX1_limit 27 = .ok (.iconst 1, 1) := by decide +kernel
theorem dX1_limit_28 : decode cX1_limit 28 = .ok (.iadd, 1) := by decide +kernel
theorem dX1_limit_29 : decode cX1_limit 29 = .ok (.invokevirtual 54, 3) := by decide +kernel
theorem dX1_limit_32 : decode cX1_limit 32 = .ok (.ireturn, 1) := by decide +kernel
theorem dX1_frame_0 : decode cX1_frame 0 = .ok (.aload_n 0, 1) := by decide +kernel
theorem dX1_frame_1 : decode cX1_frame 1 = .ok (.getfield 30, 3) := by decide +kernel
theorem dX1_frame_4 : decode cX1_frame 4 = .ok (.aload_n 0, 1) := by decide +kernel
theorem dX1_frame_5 : decode cX1_frame 5 = .ok (.getfield 26, 3) := by decide +kernel
theorem dX1_frame_8 : decode cX1_frame 8 = .ok (.iload_n 1, 1) := by decide +kernel
theorem dX1_frame_9 : decode cX1_frame 9 = .ok (.iastore, 1) := by decide +kernel
theorem dX1_frame_10 : decode cX1_frame 10 = .ok (.aload_n 0, 1) := by decide +kernel
theorem dX1_frame_11 : decode cX1_frame 11 = .ok (.getfield 33, 3) := by decide +kernel
theorem dX1_frame_14 : decode cX1_frame 14 = .ok (.aload_n 0, 1) := by decide +kernel
theorem dX1_frame_15 : decode cX1_frame 15 = .ok (.getfield 26, 3) := by decide +kernel
theorem dX1_frame_18 : decode cX1_frame 18 = .ok (.iload_n 2, 1) := by decide +kernel
theorem dX1_frame_19 : decode cX1_frame 19 = .ok (.bastore, 1) := by decide +kernel
theorem dX1_frame_20 : decode cX1_frame 20 = .ok (.aload_n 0, 1) := by decide +kernel
theorem dX1_frame_21 : decode cX1_frame 21 = .ok (.dup, 1) := by decide +kernel
theorem dX1_frame_22 : decode cX1_frame 22 = .ok (.getfield 26, 3) := by decide +kernel
theorem dX1_frame_25 : decode cX1_frame 25 = .ok (.iconst 1, 1) := by decide +kernel
theorem dX1_frame_26 : decode cX1_frame 26 = .ok (.iadd, 1) := by decide +kernel
theorem dX1_frame_27 : decode cX1_frame 27 = .ok (.putfield 26, 3) := by decide +kernel
theorem dX1_frame_30 : decode cX1_frame 30 = .ok (.aload_n 0, 1) := by decide +kernel
theorem dX1_frame_31 : decode cX1_frame 31 = .ok (.aload_n 0, 1) := by decide +kernel
theorem dX1_frame_32 : decode cX1_frame 32 = .ok (.iconst 2, 1) := by decide +kernel
theorem dX1_frame_33 : decode cX1_frame 33 = .ok (.iload_n 1, 1) := by decide +kernel
theorem dX1_frame_34 : decode cX1_frame 34 = .ok (.imul, 1) := by decide +kernel
theorem dX1_frame_35 : decode cX1_frame 35 = .ok (.invokevirtual 54, 3) := by decide +kernel
theorem dX1_frame_38 : decode cX1_frame 38 = .ok (.iconst 1, 1) := by decide +kernel
theorem dX1_frame_39 : decode cX1_frame 39 = .ok (.iadd, 1) := by decide +kernel
theorem dX1_frame_40 : decode cX1_frame 40 = .ok (.putfield 51, 3) := by decide +kernel
theorem dX1_frame_43 : decode cX1_frame 43 = .ok (.return_, 1) := by decide +kernel
theorem dX1_take_0 : decode cX1_take 0 = .ok (.aload_n 0, 1) := by decide +kernel
theorem dX1_take_1 : decode cX1_take 1 = .ok (.iconst 0, 1) := by decide +kernel
theorem dX1_take_2 : decode cX1_take 2 = .ok (.putfield 45, 3) := by decide +kernel
theorem dX1_take_5 : decode cX1_take 5 = .ok (.aload_n 0, 1) := by decide +kernel
theorem dX1_take_6 : decode cX1_take 6 = .ok (.getfield 26, 3) := by decide +kernel
theorem dX1_take_9 : decode cX1_take 9 = .ok (.iconst 1, 1) := by decide +kernel
theorem dX1_take_10 : decode cX1_take 10 = .ok (.if_icmp .eq 24, 3) := by decide +kernel
theorem dX1_take_13 : decode cX1_take 13 = .ok (.aload_n 0, 1) := by decide +kernel
theorem dX1_take_14 : decode cX1_take 14 = .ok (.getfield 33, 3) := by decide +kernel
theorem dX1_take_17 : decode cX1_take 17 = .ok (.aload_n 0, 1) := by decide +kernel
theorem dX1_take_18 : decode cX1_take 18 = .ok (.invokevirtual 58, 3) := by decide +kernel
theorem dX1_take_21 : decode cX1_take 21 = .ok (.baload, 1) := by decide +kernel
theorem dX1_take_22 : decode cX1_take 22 = .ok (.ifCond .ne 12, 3) := by decide +kernel
theorem dX1_take_25 : decode cX1_take 25 = .ok (.aload_n 0, 1) := by decide +kernel
theorem dX1_take_26 : decode cX1_take 26 = .ok (.getfield 26, 3) := by decide +kernel
theorem dX1_take_29 : decode cX1_take 29 = .ok (.bipush 64, 2) := by decide +kernel
theorem dX1_take_31 : decode cX1_take 31 = .ok (.if_icmp .ne 5, 3) := by decide +kernel
theorem dX1_take_34 : decode cX1_take 34 = .ok (.iconst (-1), 1) := by decide +kernel
theorem dX1_take_35 : decode cX1_take 35 = .ok (.ireturn, 1) := by decide +kernel
theorem dX1_take_36 : decode cX1_take 36 = .ok (.aload_n 0, 1) := by decide +kernel
theorem dX1_take_37 : decode cX1_take 37 = .ok (.invokevirtual 62, 3) := by decide +kernel
theorem dX1_take_40 : decode cX1_take 40 = .ok (.istore_n 2, 1) := by decide +kernel
theorem dX1_take_41 : decode cX1_take 41 = .ok (.aload_n 0, 1) := by decide +kernel
theorem dX1_take_42 : decode cX1_take 42 = .ok (.getfield 51, 3) := by decide +kernel
theorem dX1_take_45 : decode cX1_take 45 = .ok (.istore_n 3, 1) := by decide +kernel
theorem dX1_take_46 : decode cX1_take 46 = .ok (.iload_n 3, 1) := by decide +kernel
theorem dX1_take_47 : decode cX1_take 47 = .ok (.iload_n 2, 1) := by decide +kernel
theorem dX1_take_48 : decode cX1_take 48 = .ok (.if_icmp .ge 96, 3) := by decide +kernel
theorem dX1_take_51 : decode cX1_take 51 = .ok (.aload_n 0, 1) := by decide +kernel
theorem dX1_take_52 : decode cX1_take 52 = .ok (.getfield 23, 3) := by decide +kernel
theorem dX1_take_55 : decode cX1_take 55 = .ok (.iload_n 3, 1) := by decide +kernel
theorem dX1_take_56 : decode cX1_take 56 = .ok (.iaload, 1) := by decide +kernel
theorem dX1_take_57 : decode cX1_take 57 = .ok (.iconst 2, 1) := by decide +kernel
theorem dX1_take_58 : decode cX1_take 58 = .ok (.idiv, 1) := by decide +kernel
theorem dX1_take_59 : decode cX1_take 59 = .ok (.istore 4, 2) := by decide +kernel
theorem dX1_take_61 : decode cX1_take 61 = .ok (.aload_n 0, 1) := by decide +kernel
theorem dX1_take_62 : decode cX1_take 62 = .ok (.getfield 23, 3) := by decide +kernel
theorem dX1_take_65 : decode cX1_take 65 = .ok (.iload_n 3, 1) := by decide +kernel
theorem dX1_take_66 : decode cX1_take 66 = .ok (.iaload, 1) := by decide +kernel
theorem dX1_take_67 : decode cX1_take 67 = .ok (.iconst 2, 1) := by decide +kernel
theorem dX1_take_68 : decode cX1_take 68 = .ok (.irem, 1) := by decide +kernel
theorem dX1_take_69 : decode cX1_take 69 = .ok (.ifCond .ne 69, 3) := by decide +kernel
theorem dX1_take_72 : decode cX1_take 72 = .ok (.aload_n 0, 1) := by decide +kernel
theorem dX1_take_73 : decode cX1_take 73 = .ok (.getfield 13, 3) := by decide +kernel
theorem dX1_take_76 : decode cX1_take 76 = .ok (.iload 4, 2) := by decide +kernel
theorem dX1_take_78 : decode cX1_take 78 = .ok (.iaload, 1) := by decide +kernel
theorem dX1_take_79 : decode cX1_take 79 = .ok (.iload_n 1, 1) := by decide +kernel
theorem dX1_take_80 : decode cX1_take 80 = .ok (.if_icmp .ne 58, 3) := by decide +kernel
theorem dX1_take_83 : decode cX1_take 83 = .ok (.aload_n 0, 1) := by decide +kernel
theorem dX1_take_84 : decode cX1_take 84 = .ok (.getfield 20, 3) := by decide +kernel
theorem dX1_take_87 : decode cX1_take 87 = .ok (.iload 4, 2) := by decide +kernel
theorem dX1_take_89 : decode cX1_take 89 = .ok (.baload, 1) := by decide +kernel
theorem dX1_take_90 : decode cX1_take 90 = .ok (.ifCond .ne 48, 3) := by decide +kernel
theorem dX1_take_93 : decode cX1_take 93 = .ok (.aload_n 0, 1) := by decide +kernel
theorem dX1_take_94 : decode cX1_take 94 = .ok (.iload 4, 2) := by decide +kernel
theorem dX1_take_96 : decode cX1_take 96 = .ok (.invokevirtual 92, 3) := by decide +kernel
theorem dX1_take_99 : decode cX1_take 99 = .ok (.ifCond .eq 39, 3) := by decide +kernel
theorem dX1_take_102 : decode cX1_take 102 = .ok (.aload_n 0, 1) := by decide +kernel
theorem dX1_take_103 : decode cX1_take 103 = .ok (.aload_n 0, 1) := by decide +kernel
theorem dX1_take_104 : decode cX1_take 104 = .ok (.iconst 2, 1) := by decide +kernel
theorem dX1_take_105 : decode cX1_take 105 = .ok (.iload 4, 2) := by decide +kernel
theorem dX1_take_107 : decode cX1_take 107 = .ok (.imul, 1) := by decide +kernel
theorem dX1_take_108 : decode cX1_take 108 = .ok (.iconst 1, 1) := by decide +kernel
theorem dX1_take_109 : decode cX1_take 109 = .ok (.iadd, 1) := by decide +kernel
theorem dX1_take_110 : decode cX1_take 110 = .ok (.invokevirtual 54, 3) := by decide +kernel
theorem dX1_take_113 : decode cX1_take 113 = .ok (.invokevirtual 99, 3) := by decide +kernel
theorem dX1_take_116 : decode cX1_take 116 = .ok (.ifCond .eq 22, 3) := by decide +kernel
theorem dX1_take_119 : decode cX1_take 119 = .ok (.aload_n 0, 1) := by decide +kernel
theorem dX1_take_120 : decode cX1_take 120 = .ok (.aload_n 0, 1) := by decide +kernel
theorem dX1_take_121 : decode cX1_take 121 = .ok (.getfield 51, 3) := by decide +kernel
theorem dX1_take_124 : decode cX1_take 124 = .ok (.iload_n 3, 1) := by decide +kernel
theorem dX1_take_125 : decode cX1_take 125 = .ok (.invokevirtual 102, 3) := by decide +kernel
theorem dX1_take_128 : decode cX1_take 128 = .ok (.aload_n 0, 1) := by decide +kernel
theorem dX1_take_129 : decode cX1_take 129 = .ok (.iload 4, 2) := by decide +kernel
theorem dX1_take_131 : decode cX1_take 131 = .ok (.iconst 1, 1) := by decide +kernel
theorem dX1_take_132 : decode cX1_take 132 = .ok (.invokevirtual 95, 3) := by decide +kernel
theorem dX1_take_135 : decode cX1_take 135 = .ok (.iload 4, 2) := by decide +kernel
theorem dX1_take_137 : decode cX1_take 137 = .ok (.ireturn, 1) := by decide +kernel
theorem dX1_take_138 : decode cX1_take 138 = .ok (.iinc 3 1, 3) := by decide +kernel
theorem dX1_take_141 : decode cX1_take 141 = .ok (.goto (-95), 3) := by decide +kernel
theorem dX1_take_144 : decode cX1_take 144 = .ok (.iconst (-1), 1) := by decide +kernel
theorem dX1_take_145 : decode cX1_take 145 = .ok (.ireturn, 1) := by decide +kernel
theorem dX1_isAhead_0 : decode cX1_isAhead 0 = .ok (.iload_n 1, 1) := by decide +kernel
theorem dX1_isAhead_1 : decode cX1_isAhead 1 = .ok (.aload_n 0, 1) := by decide +kernel
theorem dX1_isAhead_2 : decode cX1_isAhead 2 = .ok (.getfield 51, 3) := by decide +kernel
theorem dX1_isAhead_5 : decode cX1_isAhead 5 = .ok (.if_icmp .lt 15, 3) := by decide +kernel
theorem dX1_isAhead_8 : decode cX1_isAhead 8 = .ok (.iload_n 1, 1) := by decide +kernel
theorem dX1_isAhead_9 : decode cX1_isAhead 9 = .ok (.aload_n 0, 1) := by decide +kernel
theorem dX1_isAhead_10 : decode cX1_isAhead 10 = .ok (.invokevirtual 62, 3) := by decide +kernel
theorem dX1_isAhead_13 : decode cX1_isAhead 13 = .ok (.if_icmp .ge 7, 3) := by decide +kernel
theorem dX1_isAhead_16 : decode cX1_isAhead 16 = .ok (.iconst 1, 1) := by decide +kernel
theorem dX1_isAhead_17 : decode cX1_isAhead 17 = .ok (.goto 4, 3) := by decide +kernel
theorem dX1_isAhead_20 : decode cX1_isAhead 20 = .ok (.iconst 0, 1) := by decide +kernel
theorem dX1_isAhead_21 : decode cX1_isAhead 21 = .ok (.ireturn, 1) := by decide +kernel
theorem dX1_erase_0 : decode cX1_erase 0 = .ok (.iconst 0, 1) := by decide +kernel
theorem dX1_erase_1 : decode cX1_erase 1 = .ok (.istore_n 3, 1) := by decide +kernel
theorem dX1_erase_2 : decode cX1_erase 2 = .ok (.iload_n 3, 1) := by decide +kernel
theorem dX1_erase_3 : decode cX1_erase 3 = .ok (.sipush 600, 3) := by decide +kernel
theorem dX1_erase_6 : decode cX1_erase 6 = .ok (.if_icmp .ge 16, 3) := by decide +kernel
theorem dX1_erase_9 : decode cX1_erase 9 = .ok (.aload_n 0, 1) := by decide +kernel
theorem dX1_erase_10 : decode cX1_erase 10 = .ok (.getfield 42, 3) := by decide +kernel
theorem dX1_erase_13 : decode cX1_erase 13 = .ok (.iload_n 3, 1) := by decide +kernel
theorem dX1_erase_14 : decode cX1_erase 14 = .ok (.iconst 0, 1) := by decide +kernel
theorem dX1_erase_15 : decode cX1_erase 15 = .ok (.bastore, 1) := by decide +kernel
theorem dX1_erase_16 : decode cX1_erase 16 = .ok (.iinc 3 1, 3) := by decide +kernel
theorem dX1_erase_19 : decode cX1_erase 19 = .ok (.goto (-17), 3) := by decide +kernel
theorem dX1_erase_22 : decode cX1_erase 22 = .ok (.iload_n 1, 1) := by decide +kernel
theorem dX1_erase_23 : decode cX1_erase 23 = .ok (.istore_n 3, 1) := by decide +kernel
theorem dX1_erase_24 : decode cX1_erase 24 = .ok (.iload_n 3, 1) := by decide +kernel
theorem dX1_erase_25 : decode cX1_erase 25 = .ok (.iload_n 2, 1) := by decide +kernel
theorem dX1_erase_26 : decode cX1_erase 26 = .ok (.if_icmp .ge 23, 3) := by decide +kernel
theorem dX1_erase_29 : decode cX1_erase 29 = .ok (.aload_n 0, 1) := by decide +kernel
theorem dX1_erase_30 : decode cX1_erase 30 = .ok (.getfield 42, 3) := by decide +kernel
theorem dX1_erase_33 : decode cX1_erase 33 = .ok (.aload_n 0, 1) := by decide +kernel
theorem dX1_erase_34 : decode cX1_erase 34 = .ok (.getfield 23, 3) := by decide +kernel
theorem dX1_erase_37 : decode cX1_erase 37 = .ok (.iload_n 3, 1) := by decide +kernel
theorem dX1_erase_38 : decode cX1_erase 38 = .ok (.iaload, 1) := by decide +kernel
theorem dX1_erase_39 : decode cX1_erase 39 = .ok (.iconst 2, 1) := by decide +kernel
theorem dX1_erase_40 : decode cX1_erase 40 = .ok (.idiv, 1) := by decide +kernel
theorem dX1_erase_41 : decode cX1_erase 41 = .ok (.iconst 1, 1) := by decide +kernel
theorem dX1_erase_42 : decode cX1_erase 42 = .ok (.bastore, 1) := by decide +kernel
theorem dX1_erase_43 : decode cX1_erase 43 = .ok (.iinc 3 1, 3) := by decide +kernel
theorem dX1_erase_46 : decode cX1_erase 46 = .ok (.goto (-22), 3) := by decide +kernel
theorem dX1_erase_49 : decode cX1_erase 49 = .ok (.iconst 0, 1) := by decide +kernel
theorem dX1_erase_50 : decode cX1_erase 50 = .ok (.istore_n 3, 1) := by decide +kernel
theorem dX1_erase_51 : decode cX1_erase 51 = .ok (.aload_n 0, 1) := by decide +kernel
theorem dX1_erase_52 : decode cX1_erase 52 = .ok (.getfield 51, 3) := by decide +kernel
theorem dX1_erase_55 : decode cX1_erase 55 = .ok (.istore 4, 2) := by decide +kernel
theorem dX1_erase_57 : decode cX1_erase 57 = .ok (.iconst 0, 1) := by decide +kernel
theorem dX1_erase_58 : decode cX1_erase 58 = .ok (.istore 5, 2) := by decide +kernel
theorem dX1_erase_60 : decode cX1_erase 60 = .ok (.iload 5, 2) := by decide +kernel
theorem dX1_erase_62 : decode cX1_erase 62 = .ok (.aload_n 0, 1) := by decide +kernel
theorem dX1_erase_63 : decode cX1_erase 63 = .ok (.getfield 48, 3) := by decide +kernel
theorem dX1_erase_66 : decode cX1_erase 66 = .ok (.if_icmp .ge 66, 3) := by decide +kernel
theorem dX1_erase_69 : decode cX1_erase 69 = .ok (.aload_n 0, 1) := by decide +kernel
theorem dX1_erase_70 : decode cX1_erase 70 = .ok (.getfield 42, 3) := by decide +kernel
theorem dX1_erase_73 : decode cX1_erase 73 = .ok (.aload_n 0, 1) := by decide +kernel
theorem dX1_erase_74 : decode cX1_erase 74 = .ok (.getfield 23, 3) := by decide +kernel
theorem dX1_erase_77 : decode cX1_erase 77 = .ok (.iload 5, 2) := by decide +kernel
theorem dX1_erase_79 : decode cX1_erase 79 = .ok (.iaload, 1) := by decide +kernel
theorem dX1_erase_80 : decode cX1_erase 80 = .ok (.iconst 2, 1) := by decide +kernel
theorem dX1_erase_81 : decode cX1_erase 81 = .ok (.idiv, 1) := by decide +kernel
theorem dX1_erase_82 : decode cX1_erase 82 = .ok (.baload, 1) := by decide +kernel
theorem dX1_erase_83 : decode cX1_erase 83 = .ok (.ifCond .eq 27, 3) := by decide +kernel
theorem dX1_erase_86 : decode cX1_erase 86 = .ok (.aload_n 0, 1) := by decide +kernel
theorem dX1_erase_87 : decode cX1_erase 87 = .ok (.dup, 1) := by decide +kernel
theorem dX1_erase_88 : decode cX1_erase 88 = .ok (.getfield 51, 3) := by decide +kernel
theorem dX1_erase_91 : decode cX1_erase 91 = .ok (.iload 5, 2) := by decide +kernel
theorem dX1_erase_93 : decode cX1_erase 93 = .ok (.iload 4, 2) := by decide +kernel
theorem dX1_erase_95 : decode cX1_erase 95 = .ok (.if_icmp .ge 7, 3) := by decide +kernel
theorem dX1_erase_98 : decode cX1_erase 98 = .ok (.iconst 1, 1) := by decide +kernel
theorem dX1_erase_99 : decode cX1_erase 99 = .ok (.goto 4, 3) := by decide +kernel
theorem dX1_erase_102 : decode cX1_erase 102 = .ok (.iconst 0, 1) := by decide +kernel
theorem dX1_erase_103 : decode cX1_erase 103 = .ok (.isub, 1) := by decide +kernel
theorem dX1_erase_104 : decode cX1_erase 104 = .ok (.putfield 51, 3) := by decide +kernel
theorem dX1_erase_107 : decode cX1_erase 107 = .ok (.goto 19, 3) := by decide +kernel
theorem dX1_erase_110 : decode cX1_erase 110 = .ok (.aload_n 0, 1) := by decide +kernel
theorem dX1_erase_111 : decode cX1_erase 111 = .ok (.getfield 23, 3) := by decide +kernel
theorem dX1_erase_114 : decode cX1_erase 114 = .ok (.iload_n 3, 1) := by decide +kernel
theorem dX1_erase_115 : decode cX1_erase 115 = .ok (.aload_n 0, 1) := by decide +kernel
theorem dX1_erase_116 : decode cX1_erase 116 = .ok (.getfield 23, 3) := by decide +kernel
theorem dX1_erase_119 : decode cX1_erase 119 = .ok (.iload 5, 2) := by decide +kernel
theorem dX1_erase_121 : decode cX1_erase 121 = .ok (.iaload, 1) := by decide +kernel
theorem dX1_erase_122 : decode cX1_erase 122 = .ok (.iastore, 1) := by decide +kernel
theorem dX1_erase_123 : decode cX1_erase 123 = .ok (.iinc 3 1, 3) := by decide +kernel
theorem dX1_erase_126 : decode cX1_erase 126 = .ok (.iinc 5 1, 3) := by decide +kernel
theorem dX1_erase_129 : decode cX1_erase 129 = .ok (.goto (-69), 3) := by decide +kernel
theorem dX1_erase_132 : decode cX1_erase 132 = .ok (.aload_n 0, 1) := by decide +kernel
theorem dX1_erase_133 : decode cX1_erase 133 = .ok (.iload_n 3, 1) := by decide +kernel
theorem dX1_erase_134 : decode cX1_erase 134 = .ok (.putfield 48, 3) := by decide +kernel
theorem dX1_erase_137 : decode cX1_erase 137 = .ok (.iconst 0, 1) := by decide +kernel
theorem dX1_erase_138 : decode cX1_erase 138 = .ok (.istore 5, 2) := by decide +kernel
theorem dX1_erase_140 : decode cX1_erase 140 = .ok (.iload 5, 2) := by decide +kernel
theorem dX1_erase_142 : decode cX1_erase 142 = .ok (.sipush 600, 3) := by decide +kernel
theorem dX1_erase_145 : decode cX1_erase 145 = .ok (.if_icmp .ge 37, 3) := by decide +kernel
theorem dX1_erase_148 : decode cX1_erase 148 = .ok (.aload_n 0, 1) := by decide +kernel
theorem dX1_erase_149 : decode cX1_erase 149 = .ok (.getfield 42, 3) := by decide +kernel
theorem dX1_erase_152 : decode cX1_erase 152 = .ok (.iload 5, 2) := by decide +kernel
theorem dX1_erase_154 : decode cX1_erase 154 = .ok (.baload, 1) := by decide +kernel
theorem dX1_erase_155 : decode cX1_erase 155 = .ok (.ifCond .eq 21, 3) := by decide +kernel
theorem dX1_erase_158 : decode cX1_erase 158 = .ok (.aload_n 0, 1) := by decide +kernel
theorem dX1_erase_159 : decode cX1_erase 159 = .ok (.getfield 7, 3) := by decide +kernel
theorem dX1_erase_162 : decode cX1_erase 162 = .ok (.iload 5, 2) := by decide +kernel
theorem dX1_erase_164 : decode cX1_erase 164 = .ok (.iconst 0, 1) := by decide +kernel
theorem dX1_erase_165 : decode cX1_erase 165 = .ok (.bastore, 1) := by decide +kernel
theorem dX1_erase_166 : decode cX1_erase 166 = .ok (.aload_n 0, 1) := by decide +kernel
theorem dX1_erase_167 : decode cX1_erase 167 = .ok (.dup, 1) := by decide +kernel
theorem dX1_erase_168 : decode cX1_erase 168 = .ok (.getfield 68, 3) := by decide +kernel
theorem dX1_erase_171 : decode cX1_erase 171 = .ok (.iconst 1, 1) := by decide +kernel
theorem dX1_erase_172 : decode cX1_erase 172 = .ok (.isub, 1) := by decide +kernel
theorem dX1_erase_173 : decode cX1_erase 173 = .ok (.putfield 68, 3) := by decide +kernel
theorem dX1_erase_176 : decode cX1_erase 176 = .ok (.iinc 5 1, 3) := by decide +kernel
theorem dX1_erase_179 : decode cX1_erase 179 = .ok (.goto (-39), 3) := by decide +kernel
theorem dX1_erase_182 : decode cX1_erase 182 = .ok (.return_, 1) := by decide +kernel
theorem dX1_done_0 : decode cX1_done 0 = .ok (.aload_n 0, 1) := by decide +kernel
theorem dX1_done_1 : decode cX1_done 1 = .ok (.iconst 0, 1) := by decide +kernel
theorem dX1_done_2 : decode cX1_done 2 = .ok (.putfield 45, 3) := by decide +kernel
theorem dX1_done_5 : decode cX1_done 5 = .ok (.aload_n 0, 1) := by decide +kernel
theorem dX1_done_6 : decode cX1_done 6 = .ok (.getfield 26, 3) := by decide +kernel
theorem dX1_done_9 : decode cX1_done 9 = .ok (.iconst 1, 1) := by decide +kernel
theorem dX1_done_10 : decode cX1_done 10 = .ok (.if_icmp .eq 10, 3) := by decide +kernel
theorem dX1_done_13 : decode cX1_done 13 = .ok (.aload_n 0, 1) := by decide +kernel
theorem dX1_done_14 : decode cX1_done 14 = .ok (.invokevirtual 75, 3) := by decide +kernel
theorem dX1_done_17 : decode cX1_done 17 = .ok (.ifCond .eq 5, 3) := by decide +kernel
theorem dX1_done_20 : decode cX1_done 20 = .ok (.iconst (-1), 1) := by decide +kernel
theorem dX1_done_21 : decode cX1_done 21 = .ok (.ireturn, 1) := by decide +kernel
theorem dX1_done_22 : decode cX1_done 22 = .ok (.aload_n 0, 1) := by decide +kernel
theorem dX1_done_23 : decode cX1_done 23 = .ok (.getfield 30, 3) := by decide +kernel
theorem dX1_done_26 : decode cX1_done 26 = .ok (.aload_n 0, 1) := by decide +kernel
theorem dX1_done_27 : decode cX1_done 27 = .ok (.invokevirtual 58, 3) := by decide +kernel
theorem dX1_done_30 : decode cX1_done 30 = .ok (.iaload, 1) := by decide +kernel
theorem dX1_done_31 : decode cX1_done 31 = .ok (.istore_n 1, 1) := by decide +kernel
theorem dX1_done_32 : decode cX1_done 32 = .ok (.aload_n 0, 1) := by decide +kernel
theorem dX1_done_33 : decode cX1_done 33 = .ok (.getfield 33, 3) := by decide +kernel
theorem dX1_done_36 : decode cX1_done 36 = .ok (.aload_n 0, 1) := by decide +kernel
theorem dX1_done_37 : decode cX1_done 37 = .ok (.invokevirtual 58, 3) := by decide +kernel
theorem dX1_done_40 : decode cX1_done 40 = .ok (.baload, 1) := by decide +kernel
theorem dX1_done_41 : decode cX1_done 41 = .ok (.ifCond .ne 15, 3) := by decide +kernel
theorem dX1_done_44 : decode cX1_done 44 = .ok (.aload_n 0, 1) := by decide +kernel
theorem dX1_done_45 : decode cX1_done 45 = .ok (.aload_n 0, 1) := by decide +kernel
theorem dX1_done_46 : decode cX1_done 46 = .ok (.getfield 51, 3) := by decide +kernel
theorem dX1_done_49 : decode cX1_done 49 = .ok (.aload_n 0, 1) := by decide +kernel
theorem dX1_done_50 : decode cX1_done 50 = .ok (.invokevirtual 62, 3) := by decide +kernel
theorem dX1_done_53 : decode cX1_done 53 = .ok (.invokevirtual 102, 3) := by decide +kernel
theorem dX1_done_56 : decode cX1_done 56 = .ok (.aload_n 0, 1) := by decide +kernel
theorem dX1_done_57 : decode cX1_done 57 = .ok (.aload_n 0, 1) := by decide +kernel
theorem dX1_done_58 : decode cX1_done 58 = .ok (.iconst 2, 1) := by decide +kernel
theorem dX1_done_59 : decode cX1_done 59 = .ok (.iload_n 1, 1) := by decide +kernel
theorem dX1_done_60 : decode cX1_done 60 = .ok (.imul, 1) := by decide +kernel
theorem dX1_done_61 : decode cX1_done 61 = .ok (.iconst 1, 1) := by decide +kernel
theorem dX1_done_62 : decode cX1_done 62 = .ok (.iadd, 1) := by decide +kernel
theorem dX1_done_63 : decode cX1_done 63 = .ok (.invokevirtual 54, 3) := by decide +kernel
theorem dX1_done_66 : decode cX1_done 66 = .ok (.iconst 1, 1) := by decide +kernel
theorem dX1_done_67 : decode cX1_done 67 = .ok (.iadd, 1) := by decide +kernel
theorem dX1_done_68 : decode cX1_done 68 = .ok (.putfield 51, 3) := by decide +kernel
theorem dX1_done_71 : decode cX1_done 71 = .ok (.aload_n 0, 1) := by decide +kernel
theorem dX1_done_72 : decode cX1_done 72 = .ok (.dup, 1) := by decide +kernel
theorem dX1_done_73 : decode cX1_done 73 = .ok (.getfield 26, 3) := by decide +kernel
theorem dX1_done_76 : decode cX1_done 76 = .ok (.iconst 1, 1) := by decide +kernel
theorem dX1_done_77 : decode cX1_done 77 = .ok (.isub, 1) := by decide +kernel
theorem dX1_done_78 : decode cX1_done 78 = .ok (.putfield 26, 3) := by decide +kernel
theorem dX1_done_81 : decode cX1_done 81 = .ok (.iload_n 1, 1) := by decide +kernel
theorem dX1_done_82 : decode cX1_done 82 = .ok (.ireturn, 1) := by decide +kernel
theorem dX1_toEnd_0 : decode cX1_toEnd 0 = .ok (.aload_n 0, 1) := by decide +kernel
theorem dX1_toEnd_1 : decode cX1_toEnd 1 = .ok (.iconst 0, 1) := by decide +kernel
theorem dX1_toEnd_2 : decode cX1_toEnd 2 = .ok (.putfield 45, 3) := by decide +kernel
theorem dX1_toEnd_5 : decode cX1_toEnd 5 = .ok (.aload_n 0, 1) := by decide +kernel
theorem dX1_toEnd_6 : decode cX1_toEnd 6 = .ok (.aload_n 0, 1) := by decide +kernel
theorem dX1_toEnd_7 : decode cX1_toEnd 7 = .ok (.invokevirtual 106, 3) := by decide +kernel
theorem dX1_toEnd_10 : decode cX1_toEnd 10 = .ok (.ifCond .eq 10, 3) := by decide +kernel
theorem dX1_toEnd_13 : decode cX1_toEnd 13 = .ok (.aload_n 0, 1) := by decide +kernel
theorem dX1_toEnd_14 : decode cX1_toEnd 14 = .ok (.getfield 48, 3) := by decide +kernel
theorem dX1_toEnd_17 : decode cX1_toEnd 17 = .ok (.goto 7, 3) := by decide +kernel
theorem dX1_toEnd_20 : decode cX1_toEnd 20 = .ok (.aload_n 0, 1) := by decide +kernel
theorem dX1_toEnd_21 : decode cX1_toEnd 21 = .ok (.getfield 51, 3) := by decide +kernel
theorem dX1_toEnd_24 : decode cX1_toEnd 24 = .ok (.putfield 51, 3) := by decide +kernel
theorem dX1_toEnd_27 : decode cX1_toEnd 27 = .ok (.aload_n 0, 1) := by decide +kernel
theorem dX1_toEnd_28 : decode cX1_toEnd 28 = .ok (.invokevirtual 106, 3) := by decide +kernel
theorem dX1_toEnd_31 : decode cX1_toEnd 31 = .ok (.ireturn, 1) := by decide +kernel
theorem dX1_isFree_0 : decode cX1_isFree 0 = .ok (.aload_n 0, 1) := by decide +kernel
theorem dX1_isFree_1 : decode cX1_isFree 1 = .ok (.getfield 26, 3) := by decide +kernel
theorem dX1_isFree_4 : decode cX1_isFree 4 = .ok (.iconst 1, 1) := by decide +kernel
theorem dX1_isFree_5 : decode cX1_isFree 5 = .ok (.if_icmp .ne 14, 3) := by decide +kernel
theorem dX1_isFree_8 : decode cX1_isFree 8 = .ok (.aload_n 0, 1) := by decide +kernel
theorem dX1_isFree_9 : decode cX1_isFree 9 = .ok (.getfield 65, 3) := by decide +kernel
theorem dX1_isFree_12 : decode cX1_isFree 12 = .ok (.ifCond .ne 7, 3) := by decide +kernel
theorem dX1_isFree_15 : decode cX1_isFree 15 = .ok (.iconst 1, 1) := by decide +kernel
theorem dX1_isFree_16 : decode cX1_isFree 16 = .ok (.goto 4, 3) := by decide +kernel
theorem dX1_isFree_19 : decode cX1_isFree 19 = .ok (.iconst 0, 1) := by decide +kernel
theorem dX1_isFree_20 : decode cX1_isFree 20 = .ok (.ireturn, 1) := by decide +kernel
theorem dX1_toBegin_0 : decode cX1_toBegin 0 = .ok (.aload_n 0, 1) := by decide +kernel
theorem dX1_toBegin_1 : decode cX1_toBegin 1 = .ok (.iconst 0, 1) := by decide +kernel
theorem dX1_toBegin_2 : decode cX1_toBegin 2 = .ok (.putfield 45, 3) := by decide +kernel
theorem dX1_toBegin_5 : decode cX1_toBegin 5 = .ok (.aload_n 0, 1) := by decide +kernel
theorem dX1_toBegin_6 : decode cX1_toBegin 6 = .ok (.aload_n 0, 1) := by decide +kernel
theorem dX1_toBegin_7 : decode cX1_toBegin 7 = .ok (.invokevirtual 106, 3) := by decide +kernel
theorem dX1_toBegin_10 : decode cX1_toBegin 10 = .ok (.ifCond .eq 7, 3) := by decide +kernel
theorem dX1_toBegin_13 : decode cX1_toBegin 13 = .ok (.iconst 0, 1) := by decide +kernel
theorem dX1_toBegin_14 : decode cX1_toBegin 14 = .ok (.goto 7, 3) := by decide +kernel
theorem dX1_toBegin_17 : decode cX1_toBegin 17 = .ok (.aload_n 0, 1) := by decide +kernel
theorem dX1_toBegin_18 : decode cX1_toBegin 18 = .ok (.getfield 51, 3) := by decide +kernel
theorem dX1_toBegin_21 : decode cX1_toBegin 21 = .ok (.putfield 51, 3) := by decide +kernel
theorem dX1_toBegin_24 : decode cX1_toBegin 24 = .ok (.aload_n 0, 1) := by decide +kernel
theorem dX1_toBegin_25 : decode cX1_toBegin 25 = .ok (.invokevirtual 106, 3) := by decide +kernel
theorem dX1_toBegin_28 : decode cX1_toBegin 28 = .ok (.ireturn, 1) := by decide +kernel
theorem dX1_wipe_0 : decode cX1_wipe 0 = .ok (.aload_n 0, 1) := by decide +kernel
theorem dX1_wipe_1 : decode cX1_wipe 1 = .ok (.iconst 0, 1) := by decide +kernel
theorem dX1_wipe_2 : decode cX1_wipe 2 = .ok (.putfield 45, 3) := by decide +kernel
theorem dX1_wipe_5 : decode cX1_wipe 5 = .ok (.iconst 0, 1) := by decide +kernel
theorem dX1_wipe_6 : decode cX1_wipe 6 = .ok (.istore_n 1, 1) := by decide +kernel
theorem dX1_wipe_7 : decode cX1_wipe 7 = .ok (.iload_n 1, 1) := by decide +kernel
theorem dX1_wipe_8 : decode cX1_wipe 8 = .ok (.sipush 600, 3) := by decide +kernel
theorem dX1_wipe_11 : decode cX1_wipe 11 = .ok (.if_icmp .ge 16, 3) := by decide +kernel
theorem dX1_wipe_14 : decode cX1_wipe 14 = .ok (.aload_n 0, 1) := by decide +kernel
theorem dX1_wipe_15 : decode cX1_wipe 15 = .ok (.getfield 7, 3) := by decide +kernel
theorem dX1_wipe_18 : decode cX1_wipe 18 = .ok (.iload_n 1, 1) := by decide +kernel
theorem dX1_wipe_19 : decode cX1_wipe 19 = .ok (.iconst 0, 1) := by decide +kernel
theorem dX1_wipe_20 : decode cX1_wipe 20 = .ok (.bastore, 1) := by decide +kernel
theorem dX1_wipe_21 : decode cX1_wipe 21 = .ok (.iinc 1 1, 3) := by decide +kernel
theorem dX1_wipe_24 : decode cX1_wipe 24 = .ok (.goto (-17), 3) := by decide +kernel
theorem dX1_wipe_27 : decode cX1_wipe 27 = .ok (.aload_n 0, 1) := by decide +kernel
theorem dX1_wipe_28 : decode cX1_wipe 28 = .ok (.iconst 0, 1) := by decide +kernel
theorem dX1_wipe_29 : decode cX1_wipe 29 = .ok (.putfield 68, 3) := by decide +kernel
theorem dX1_wipe_32 : decode cX1_wipe 32 = .ok (.aload_n 0, 1) := by decide +kernel
theorem dX1_wipe_33 : decode cX1_wipe 33 = .ok (.iconst 0, 1) := by decide +kernel
theorem dX1_wipe_34 : decode cX1_wipe 34 = .ok (.putfield 79, 3) := by decide +kernel
theorem dX1_wipe_37 : decode cX1_wipe 37 = .ok (.aload_n 0, 1) := by decide +kernel
theorem dX1_wipe_38 : decode cX1_wipe 38 = .ok (.iconst 0, 1) := by decide +kernel
theorem dX1_wipe_39 : decode cX1_wipe 39 = .ok (.putfield 48, 3) := by decide +kernel
theorem dX1_wipe_42 : decode cX1_wipe 42 = .ok (.aload_n 0, 1) := by decide +kernel
theorem dX1_wipe_43 : decode cX1_wipe 43 = .ok (.iconst 0, 1) := by decide +kernel
theorem dX1_wipe_44 : decode cX1_wipe 44 = .ok (.putfield 51, 3) := by decide +kernel
theorem dX1_wipe_47 : decode cX1_wipe 47 = .ok (.aload_n 0, 1) := by decide +kernel
theorem dX1_wipe_48 : decode cX1_wipe 48 = .ok (.iconst 1, 1) := by decide +kernel
theorem dX1_wipe_49 : decode cX1_wipe 49 = .ok (.putfield 26, 3) := by decide +kernel
theorem dX1_wipe_52 : decode cX1_wipe 52 = .ok (.aload_n 0, 1) := by decide +kernel
theorem dX1_wipe_53 : decode cX1_wipe 53 = .ok (.iconst 0, 1) := by decide +kernel
theorem dX1_wipe_54 : decode cX1_wipe 54 = .ok (.putfield 65, 3) := by decide +kernel
theorem dX1_wipe_57 : decode cX1_wipe 57 = .ok (.return_, 1) := by decide +kernel
theorem dX1_of_0 : decode cX1_of 0 = .ok (.aload_n 0, 1) := by decide +kernel
theorem dX1_of_1 : decode cX1_of 1 = .ok (.aload_n 0, 1) := by decide +kernel
theorem dX1_of_2 : decode cX1_of 2 = .ok (.iload_n 1, 1) := by decide +kernel
theorem dX1_of_3 : decode cX1_of 3 = .ok (.invokevirtual 88, 3) := by decide +kernel
theorem dX1_of_6 : decode cX1_of 6 = .ok (.ifCond .eq 17, 3) := by decide +kernel
theorem dX1_of_9 : decode cX1_of 9 = .ok (.iload_n 2, 1) := by decide +kernel
theorem dX1_of_10 : decode cX1_of 10 = .ok (.ifCond .lt 13, 3) := by decide +kernel
theorem dX1_of_13 : decode cX1_of 13 = .ok (.iload_n 2, 1) := by decide +kernel
theorem dX1_of_14 : decode cX1_of 14 = .ok (.bipush 6, 2) := by decide +kernel
theorem dX1_of_16 : decode cX1_of 16 = .ok (.if_icmp .gt 7, 3) := by decide +kernel
theorem dX1_of_19 : decode cX1_of 19 = .ok (.iconst 0, 1) := by decide +kernel
theorem dX1_of_20 : decode cX1_of 20 = .ok (.goto 4, 3) := by decide +kernel
theorem dX1_of_23 : decode cX1_of 23 = .ok (.iconst 1, 1) := by decide +kernel
theorem dX1_of_24 : decode cX1_of 24 = .ok (.putfield 45, 3) := by decide +kernel
theorem dX1_of_27 : decode cX1_of 27 = .ok (.aload_n 0, 1) := by decide +kernel
theorem dX1_of_28 : decode cX1_of 28 = .ok (.getfield 45, 3) := by decide +kernel
theorem dX1_of_31 : decode cX1_of 31 = .ok (.ifCond .le 5, 3) := by decide +kernel
theorem dX1_of_34 : decode cX1_of 34 = .ok (.iconst 0, 1) := by decide +kernel
theorem dX1_of_35 : decode cX1_of 35 = .ok (.ireturn, 1) := by decide +kernel
theorem dX1_of_36 : decode cX1_of 36 = .ok (.iload_n 2, 1) := by decide +kernel
theorem dX1_of_37 : decode cX1_of 37 = .ok (.tableswitch 104 0 5 #[39, 46, 53, 80, 88, 98], 39) := by decide +kernel
theorem dX1_of_76 : decode cX1_of 76 = .ok (.aload_n 0, 1) := by decide +kernel
theorem dX1_of_77 : decode cX1_of 77 = .ok (.getfield 13, 3) := by decide +kernel
theorem dX1_of_80 : decode cX1_of 80 = .ok (.iload_n 1, 1) := by decide +kernel
theorem dX1_of_81 : decode cX1_of 81 = .ok (.iaload, 1) := by decide +kernel
theorem dX1_of_82 : decode cX1_of 82 = .ok (.ireturn, 1) := by decide +kernel
theorem dX1_of_83 : decode cX1_of 83 = .ok (.aload_n 0, 1) := by decide +kernel
theorem dX1_of_84 : decode cX1_of 84 = .ok (.getfield 17, 3) := by decide +kernel
theorem dX1_of_87 : decode cX1_of 87 = .ok (.iload_n 1, 1) := by decide +kernel
theorem dX1_of_88 : decode cX1_of 88 = .ok (.iaload, 1) := by decide +kernel
theorem dX1_of_89 : decode cX1_of 89 = .ok (.ireturn, 1) := by decide +kernel
theorem dX1_of_90 : decode cX1_of 90 = .ok (.aload_n 0, 1) := by decide +kernel
theorem dX1_of_91 : decode cX1_of 91 = .ok (.iload_n 1, 1) := by decide +kernel
theorem dX1_of_92 : decode cX1_of 92 = .ok (.invokevirtual 92, 3) := by decide +kernel
theorem dX1_of_95 : decode cX1_of 95 = .ok (.ifCond .ne 7, 3) := by decide +kernel
theorem dX1_of_98 : decode cX1_of 98 = .ok (.iconst 0, 1) := by decide +kernel
theorem dX1_of_99 : decode cX1_of 99 = .ok (.goto 17, 3) := by decide +kernel
theorem dX1_of_102 : decode cX1_of 102 = .ok (.aload_n 0, 1) := by decide +kernel
theorem dX1_of_103 : decode cX1_of 103 = .ok (.getfield 20, 3) := by decide +kernel
theorem dX1_of_106 : decode cX1_of 106 = .ok (.iload_n 1, 1) := by decide +kernel
theorem dX1_of_107 : decode cX1_of 107 = .ok (.baload, 1) := by decide +kernel
theorem dX1_of_108 : decode cX1_of 108 = .ok (.ifCond .eq 7, 3) := by decide +kernel
theorem dX1_of_111 : decode cX1_of 111 = .ok (.iconst 2, 1) := by decide +kernel
theorem dX1_of_112 : decode cX1_of 112 = .ok (.goto 4, 3) := by decide +kernel
theorem dX1_of_115 : decode cX1_of 115 = .ok (.iconst 1, 1) := by decide +kernel
theorem dX1_of_116 : decode cX1_of 116 = .ok (.ireturn, 1) := by decide +kernel
theorem dX1_of_117 : decode cX1_of 117 = .ok (.aload_n 0, 1) := by decide +kernel
theorem dX1_of_118 : decode cX1_of 118 = .ok (.iconst 2, 1) := by decide +kernel
theorem dX1_of_119 : decode cX1_of 119 = .ok (.iload_n 1, 1) := by decide +kernel
theorem dX1_of_120 : decode cX1_of 120 = .ok (.imul, 1) := by decide +kernel
theorem dX1_of_121 : decode cX1_of 121 = .ok (.invokevirtual 54, 3) := by decide +kernel
theorem dX1_of_124 : decode cX1_of 124 = .ok (.ireturn, 1) := by decide +kernel
theorem dX1_of_125 : decode cX1_of 125 = .ok (.aload_n 0, 1) := by decide +kernel
theorem dX1_of_126 : decode cX1_of 126 = .ok (.iconst 2, 1) := by decide +kernel
theorem dX1_of_127 : decode cX1_of 127 = .ok (.iload_n 1, 1) := by decide +kernel
theorem dX1_of_128 : decode cX1_of 128 = .ok (.imul, 1) := by decide +kernel
theorem dX1_of_129 : decode cX1_of 129 = .ok (.iconst 1, 1) := by decide +kernel
theorem dX1_of_130 : decode cX1_of 130 = .ok (.iadd, 1) := by decide +kernel
theorem dX1_of_131 : decode cX1_of 131 = .ok (.invokevirtual 54, 3) := by decide +kernel
theorem dX1_of_134 : decode cX1_of 134 = .ok (.ireturn, 1) := by decide +kernel
theorem dX1_of_135 : decode cX1_of 135 = .ok (.aload_n 0, 1) := by decide +kernel
theorem dX1_of_136 : decode cX1_of 136 = .ok (.iload_n 1, 1) := by decide +kernel
theorem dX1_of_137 : decode cX1_of 137 = .ok (.invokevirtual 112, 3) := by decide +kernel
theorem dX1_of_140 : decode cX1_of 140 = .ok (.ireturn, 1) := by decide +kernel
theorem dX1_of_141 : decode cX1_of 141 = .ok (.aload_n 0, 1) := by decide +kernel
theorem dX1_of_142 : decode cX1_of 142 = .ok (.iload_n 1, 1) := by decide +kernel
theorem dX1_of_143 : decode cX1_of 143 = .ok (.invokevirtual 115, 3) := by decide +kernel
theorem dX1_of_146 : decode cX1_of 146 = .ok (.ireturn, 1) := by decide +kernel
theorem dX1_around_0 : decode cX1_around 0 = .ok (.aload_n 0, 1) := by decide +kernel
theorem dX1_around_1 : decode cX1_around 1 = .ok (.iconst 2, 1) := by decide +kernel
theorem dX1_around_2 : decode cX1_around 2 = .ok (.iload_n 1, 1) := by decide +kernel
theorem dX1_around_3 : decode cX1_around 3 = .ok (.imul, 1) := by decide +kernel
theorem dX1_around_4 : decode cX1_around 4 = .ok (.invokevirtual 54, 3) := by decide +kernel
theorem dX1_around_7 : decode cX1_around 7 = .ok (.istore_n 2, 1) := by decide +kernel
theorem dX1_around_8 : decode cX1_around 8 = .ok (.iconst (-1), 1) := by decide +kernel
theorem dX1_around_9 : decode cX1_around 9 = .ok (.istore_n 3, 1) := by decide +kernel
theorem dX1_around_10 : decode cX1_around 10 = .ok (.iconst 0, 1) := by decide +kernel
theorem dX1_around_11 : decode cX1_around 11 = .ok (.istore 4, 2) := by decide +kernel
theorem dX1_around_13 : decode cX1_around 13 = .ok (.iload 4, 2) := by decide +kernel
theorem dX1_around_15 : decode cX1_around 15 = .ok (.iload_n 2, 1) := by decide +kernel
theorem dX1_around_16 : decode cX1_around 16 = .ok (.if_icmp .ge 52, 3) := by decide +kernel
theorem dX1_around_19 : decode cX1_around 19 = .ok (.aload_n 0, 1) := by decide +kernel
theorem dX1_around_20 : decode cX1_around 20 = .ok (.getfield 23, 3) := by decide +kernel
theorem dX1_around_23 : decode cX1_around 23 = .ok (.iload 4, 2) := by decide +kernel
theorem dX1_around_25 : decode cX1_around 25 = .ok (.iaload, 1) := by decide +kernel
theorem dX1_around_26 : decode cX1_around 26 = .ok (.iconst 2, 1) := by decide +kernel
theorem dX1_around_27 : decode cX1_around 27 = .ok (.irem, 1) := by decide +kernel
theorem dX1_around_28 : decode cX1_around 28 = .ok (.ifCond .ne 32, 3) := by decide +kernel
theorem dX1_around_31 : decode cX1_around 31 = .ok (.aload_n 0, 1) := by decide +kernel
theorem dX1_around_32 : decode cX1_around 32 = .ok (.aload_n 0, 1) := by decide +kernel
theorem dX1_around_33 : decode cX1_around 33 = .ok (.getfield 23, 3) := by decide +kernel
theorem dX1_around_36 : decode cX1_around 36 = .ok (.iload 4, 2) := by decide +kernel
theorem dX1_around_38 : decode cX1_around 38 = .ok (.iaload, 1) := by decide +kernel
theorem dX1_around_39 : decode cX1_around 39 = .ok (.iconst 2, 1) := by decide +kernel
theorem dX1_around_40 : decode cX1_around 40 = .ok (.idiv, 1) := by decide +kernel
theorem dX1_around_41 : decode cX1_around 41 = .ok (.invokevirtual 109, 3) := by decide +kernel
theorem dX1_around_44 : decode cX1_around 44 = .ok (.iload_n 2, 1) := by decide +kernel
theorem dX1_around_45 : decode cX1_around 45 = .ok (.if_icmp .le 15, 3) := by decide +kernel
theorem dX1_around_48 : decode cX1_around 48 = .ok (.aload_n 0, 1) := by decide +kernel
theorem dX1_around_49 : decode cX1_around 49 = .ok (.getfield 23, 3) := by decide +kernel
theorem dX1_around_52 : decode cX1_around 52 = .ok (.iload 4, 2) := by decide +kernel
theorem dX1_around_54 : decode cX1_around 54 = .ok (.iaload, 1) := by decide +kernel
theorem dX1_around_55 : decode cX1_around 55 = .ok (.iconst 2, 1) := by decide +kernel
theorem dX1_around_56 : decode cX1_around 56 = .ok (.idiv, 1) := by decide +kernel
theorem dX1_around_57 : decode cX1_around 57 = .ok (.goto 4, 3) := by decide +kernel
theorem dX1_around_60 : decode cX1_around 60 = .ok (.iload_n 3, 1) := by decide +kernel
theorem dX1_around_61 : decode cX1_around 61 = .ok (.istore_n 3, 1) := by decide +kernel
theorem dX1_around_62 : decode cX1_around 62 = .ok (.iinc 4 1, 3) := by decide +kernel
theorem dX1_around_65 : decode cX1_around 65 = .ok (.goto (-52), 3) := by decide +kernel
theorem dX1_around_68 : decode cX1_around 68 = .ok (.iload_n 3, 1) := by decide +kernel
theorem dX1_around_69 : decode cX1_around 69 = .ok (.ireturn, 1) := by decide +kernel
theorem dX1_endOf_0 : decode cX1_endOf 0 = .ok (.aload_n 0, 1) := by decide +kernel
theorem dX1_endOf_1 : decode cX1_endOf 1 = .ok (.iconst 2, 1) := by decide +kernel
theorem dX1_endOf_2 : decode cX1_endOf 2 = .ok (.iload_n 1, 1) := by decide +kernel
theorem dX1_endOf_3 : decode cX1_endOf 3 = .ok (.imul, 1) := by decide +kernel
theorem dX1_endOf_4 : decode cX1_endOf 4 = .ok (.iconst 1, 1) := by decide +kernel
theorem dX1_endOf_5 : decode cX1_endOf 5 = .ok (.iadd, 1) := by decide +kernel
theorem dX1_endOf_6 : decode cX1_endOf 6 = .ok (.invokevirtual 54, 3) := by decide +kernel
theorem dX1_endOf_9 : decode cX1_endOf 9 = .ok (.istore_n 2, 1) := by decide +kernel
theorem dX1_endOf_10 : decode cX1_endOf 10 = .ok (.iload_n 2, 1) := by decide +kernel
theorem dX1_endOf_11 : decode cX1_endOf 11 = .ok (.ifCond .ge 10, 3) := by decide +kernel
theorem dX1_endOf_14 : decode cX1_endOf 14 = .ok (.aload_n 0, 1) := by decide +kernel
theorem dX1_endOf_15 : decode cX1_endOf 15 = .ok (.getfield 48, 3) := by decide +kernel
theorem dX1_endOf_18 : decode cX1_endOf 18 = .ok (.goto 4, 3) := by decide +kernel
theorem dX1_endOf_21 : decode cX1_endOf 21 = .ok (.iload_n 2, 1) := by decide +kernel
theorem dX1_endOf_22 : decode cX1_endOf 22 = .ok (.ireturn, 1) := by decide +kernel
theorem dX1_sumOf_0 : decode cX1_sumOf 0 = .ok (.aload_n 0, 1) := by decide +kernel
theorem dX1_sumOf_1 : decode cX1_sumOf 1 = .ok (.getfield 17, 3) := by decide +kernel
theorem dX1_sumOf_4 : decode cX1_sumOf 4 = .ok (.iload_n 1, 1) := by decide +kernel
theorem dX1_sumOf_5 : decode cX1_sumOf 5 = .ok (.iaload, 1) := by decide +kernel
theorem dX1_sumOf_6 : decode cX1_sumOf 6 = .ok (.istore_n 2, 1) := by decide +kernel
theorem dX1_sumOf_7 : decode cX1_sumOf 7 = .ok (.aload_n 0, 1) := by decide +kernel
theorem dX1_sumOf_8 : decode cX1_sumOf 8 = .ok (.iconst 2, 1) := by decide +kernel
theorem dX1_sumOf_9 : decode cX1_sumOf 9 = .ok (.iload_n 1, 1) := by decide +kernel
theorem dX1_sumOf_10 : decode cX1_sumOf 10 = .ok (.imul, 1) := by decide +kernel
theorem dX1_sumOf_11 : decode cX1_sumOf 11 = .ok (.invokevirtual 54, 3) := by decide +kernel
theorem dX1_sumOf_14 : decode cX1_sumOf 14 = .ok (.iconst 1, 1) := by decide +kernel
theorem dX1_sumOf_15 : decode cX1_sumOf 15 = .ok (.iadd, 1) := by decide +kernel
theorem dX1_sumOf_16 : decode cX1_sumOf 16 = .ok (.istore_n 3, 1) := by decide +kernel
theorem dX1_sumOf_17 : decode cX1_sumOf 17 = .ok (.iload_n 3, 1) := by decide +kernel
theorem dX1_sumOf_18 : decode cX1_sumOf 18 = .ok (.aload_n 0, 1) := by decide +kernel
theorem dX1_sumOf_19 : decode cX1_sumOf 19 = .ok (.iload_n 1, 1) := by decide +kernel
theorem dX1_sumOf_20 : decode cX1_sumOf 20 = .ok (.invokevirtual 109, 3) := by decide +kernel
theorem dX1_sumOf_23 : decode cX1_sumOf 23 = .ok (.if_icmp .ge 40, 3) := by decide +kernel
theorem dX1_sumOf_26 : decode cX1_sumOf 26 = .ok (.iload_n 2, 1) := by decide +kernel
theorem dX1_sumOf_27 : decode cX1_sumOf 27 = .ok (.aload_n 0, 1) := by decide +kernel
theorem dX1_sumOf_28 : decode cX1_sumOf 28 = .ok (.getfield 23, 3) := by decide +kernel
theorem dX1_sumOf_31 : decode cX1_sumOf 31 = .ok (.iload_n 3, 1) := by decide +kernel
theorem dX1_sumOf_32 : decode cX1_sumOf 32 = .ok (.iaload, 1) := by decide +kernel
theorem dX1_sumOf_33 : decode cX1_sumOf 33 = .ok (.iconst 2, 1) := by decide +kernel
theorem dX1_sumOf_34 : decode cX1_sumOf 34 = .ok (.irem, 1) := by decide +kernel
theorem dX1_sumOf_35 : decode cX1_sumOf 35 = .ok (.ifCond .ne 19, 3) := by decide +kernel
theorem dX1_sumOf_38 : decode cX1_sumOf 38 = .ok (.aload_n 0, 1) := by decide +kernel
theorem dX1_sumOf_39 : decode cX1_sumOf 39 = .ok (.getfield 17, 3) := by decide +kernel
theorem dX1_sumOf_42 : decode cX1_sumOf 42 = .ok (.aload_n 0, 1) := by decide +kernel
theorem dX1_sumOf_43 : decode cX1_sumOf 43 = .ok (.getfield 23, 3) := by decide +kernel
theorem dX1_sumOf_46 : decode cX1_sumOf 46 = .ok (.iload_n 3, 1) := by decide +kernel
theorem dX1_sumOf_47 : decode cX1_sumOf 47 = .ok (.iaload, 1) := by decide +kernel
theorem dX1_sumOf_48 : decode cX1_sumOf 48 = .ok (.iconst 2, 1) := by decide +kernel
theorem dX1_sumOf_49 : decode cX1_sumOf 49 = .ok (.idiv, 1) := by decide +kernel
theorem dX1_sumOf_50 : decode cX1_sumOf 50 = .ok (.iaload, 1) := by decide +kernel
theorem dX1_sumOf_51 : decode cX1_sumOf 51 = .ok (.goto 4, 3) := by decide +kernel
theorem dX1_sumOf_54 : decode cX1_sumOf 54 = .ok (.iconst 0, 1) := by decide +kernel
theorem dX1_sumOf_55 : decode cX1_sumOf 55 = .ok (.iadd, 1) := by decide +kernel
theorem dX1_sumOf_56 : decode cX1_sumOf 56 = .ok (.istore_n 2, 1) := by decide +kernel
theorem dX1_sumOf_57 : decode cX1_sumOf 57 = .ok (.iinc 3 1, 3) := by decide +kernel
theorem dX1_sumOf_60 : decode cX1_sumOf 60 = .ok (.goto (-43), 3) := by decide +kernel
theorem dX1_sumOf_63 : decode cX1_sumOf 63 = .ok (.iload_n 2, 1) := by decide +kernel
theorem dX1_sumOf_64 : decode cX1_sumOf 64 = .ok (.ireturn, 1) := by decide +kernel
theorem dX1_event_0 : decode cX1_event 0 = .ok (.aload_n 0, 1) := by decide +kernel
theorem dX1_event_1 : decode cX1_event 1 = .ok (.iconst 0, 1) := by decide +kernel
theorem dX1_event_2 : decode cX1_event 2 = .ok (.putfield 45, 3) := by decide +kernel
theorem dX1_event_5 : decode cX1_event 5 = .ok (.iload_n 1, 1) := by decide +kernel
theorem dX1_event_6 : decode cX1_event 6 = .ok (.ifCond .lt 11, 3) := by decide +kernel
theorem dX1_event_9 : decode cX1_event 9 = .ok (.iload_n 1, 1) := by decide +kernel
theorem dX1_event_10 : decode cX1_event 10 = .ok (.aload_n 0, 1) := by decide +kernel
theorem dX1_event_11 : decode cX1_event 11 = .ok (.getfield 48, 3) := by decide +kernel
theorem dX1_event_14 : decode cX1_event 14 = .ok (.if_icmp .lt 7, 3) := by decide +kernel
theorem dX1_event_17 : decode cX1_event 17 = .ok (.iconst (-1), 1) := by decide +kernel
theorem dX1_event_18 : decode cX1_event 18 = .ok (.goto 9, 3) := by decide +kernel
theorem dX1_event_21 : decode cX1_event 21 = .ok (.aload_n 0, 1) := by decide +kernel
theorem dX1_event_22 : decode cX1_event 22 = .ok (.getfield 23, 3) := by decide +kernel
theorem dX1_event_25 : decode cX1_event 25 = .ok (.iload_n 1, 1) := by decide +kernel
theorem dX1_event_26 : decode cX1_event 26 = .ok (.iaload, 1) := by decide +kernel
theorem dX1_event_27 : decode cX1_event 27 = .ok (.ireturn, 1) := by decide +kernel
theorem dX1_look_0 : decode cX1_look 0 = .ok (.aload_n 0, 1) := by decide +kernel
theorem dX1_look_1 : decode cX1_look 1 = .ok (.iconst 0, 1) := by decide +kernel
theorem dX1_look_2 : decode cX1_look 2 = .ok (.putfield 45, 3) := by decide +kernel
theorem dX1_look_5 : decode cX1_look 5 = .ok (.iconst 0, 1) := by decide +kernel
theorem dX1_look_6 : decode cX1_look 6 = .ok (.istore_n 2, 1) := by decide +kernel
theorem dX1_look_7 : decode cX1_look 7 = .ok (.iconst 0, 1) := by decide +kernel
theorem dX1_look_8 : decode cX1_look 8 = .ok (.istore_n 3, 1) := by decide +kernel
theorem dX1_look_9 : decode cX1_look 9 = .ok (.iload_n 3, 1) := by decide +kernel
theorem dX1_look_10 : decode cX1_look 10 = .ok (.sipush 600, 3) := by decide +kernel
theorem dX1_look_13 : decode cX1_look 13 = .ok (.if_icmp .ge 35, 3) := by decide +kernel
theorem dX1_look_16 : decode cX1_look 16 = .ok (.iload_n 2, 1) := by decide +kernel
theorem dX1_look_17 : decode cX1_look 17 = .ok (.aload_n 0, 1) := by decide +kernel
theorem dX1_look_18 : decode cX1_look 18 = .ok (.getfield 7, 3) := by decide +kernel
theorem dX1_look_21 : decode cX1_look 21 = .ok (.iload_n 3, 1) := by decide +kernel
theorem dX1_look_22 : decode cX1_look 22 = .ok (.baload, 1) := by decide +kernel
theorem dX1_look_23 : decode cX1_look 23 = .ok (.ifCond .eq 16, 3) := by decide +kernel
theorem dX1_look_26 : decode cX1_look 26 = .ok (.aload_n 0, 1) := by decide +kernel
theorem dX1_look_27 : decode cX1_look 27 = .ok (.getfield 20, 3) := by decide +kernel
theorem dX1_look_30 : decode cX1_look 30 = .ok (.iload_n 3, 1) := by decide +kernel
theorem dX1_look_31 : decode cX1_look 31 = .ok (.baload, 1) := by decide +kernel
theorem dX1_look_32 : decode cX1_look 32 = .ok (.ifCond .eq 7, 3) := by decide +kernel
theorem dX1_look_35 : decode cX1_look 35 = .ok (.iconst 1, 1) := by decide +kernel
theorem dX1_look_36 : decode cX1_look 36 = .ok (.goto 4, 3) := by decide +kernel
theorem dX1_look_39 : decode cX1_look 39 = .ok (.iconst 0, 1) := by decide +kernel
theorem dX1_look_40 : decode cX1_look 40 = .ok (.iadd, 1) := by decide +kernel
theorem dX1_look_41 : decode cX1_look 41 = .ok (.istore_n 2, 1) := by decide +kernel
theorem dX1_look_42 : decode cX1_look 42 = .ok (.iinc 3 1, 3) := by decide +kernel
theorem dX1_look_45 : decode cX1_look 45 = .ok (.goto (-36), 3) := by decide +kernel
theorem dX1_look_48 : decode cX1_look 48 = .ok (.iload_n 1, 1) := by decide +kernel
theorem dX1_look_49 : decode cX1_look 49 = .ok (.tableswitch 171 0 9 #[55, 60, 65, 70, 75, 81, 83, 93, 116, 146], 55) := by decide +kernel
theorem dX1_look_104 : decode cX1_look 104 = .ok (.aload_n 0, 1) := by decide +kernel
theorem dX1_look_105 : decode cX1_look 105 = .ok (.getfield 68, 3) := by decide +kernel
theorem dX1_look_108 : decode cX1_look 108 = .ok (.ireturn, 1) := by decide +kernel
theorem dX1_look_109 : decode cX1_look 109 = .ok (.aload_n 0, 1) := by decide +kernel
theorem dX1_look_110 : decode cX1_look 110 = .ok (.getfield 48, 3) := by decide +kernel
theorem dX1_look_113 : decode cX1_look 113 = .ok (.ireturn, 1) := by decide +kernel
theorem dX1_look_114 : decode cX1_look 114 = .ok (.aload_n 0, 1) := by decide +kernel
theorem dX1_look_115 : decode cX1_look 115 = .ok (.getfield 51, 3) := by decide +kernel
theorem dX1_look_118 : decode cX1_look 118 = .ok (.ireturn, 1) := by decide +kernel
theorem dX1_look_119 : decode cX1_look 119 = .ok (.aload_n 0, 1) := by decide +kernel
theorem dX1_look_120 : decode cX1_look 120 = .ok (.getfield 26, 3) := by decide +kernel
theorem dX1_look_123 : decode cX1_look 123 = .ok (.ireturn, 1) := by decide +kernel
theorem dX1_look_124 : decode cX1_look 124 = .ok (.aload_n 0, 1) := by decide +kernel
theorem dX1_look_125 : decode cX1_look 125 = .ok (.invokevirtual 82, 3) := by decide +kernel
theorem dX1_look_128 : decode cX1_look 128 = .ok (.l2i, 1) := by decide +kernel
theorem dX1_look_129 : decode cX1_look 129 = .ok (.ireturn, 1) := by decide +kernel
theorem dX1_look_130 : decode cX1_look 130 = .ok (.iload_n 2, 1) := by decide +kernel
theorem dX1_look_131 : decode cX1_look 131 = .ok (.ireturn, 1) := by decide +kernel
theorem dX1_look_132 : decode cX1_look 132 = .ok (.aload_n 0, 1) := by decide +kernel
theorem dX1_look_133 : decode cX1_look 133 = .ok (.getfield 30, 3) := by decide +kernel
theorem dX1_look_136 : decode cX1_look 136 = .ok (.aload_n 0, 1) := by decide +kernel
theorem dX1_look_137 : decode cX1_look 137 = .ok (.invokevirtual 58, 3) := by decide +kernel
theorem dX1_look_140 : decode cX1_look 140 = .ok (.iaload, 1) := by decide +kernel
theorem dX1_look_141 : decode cX1_look 141 = .ok (.ireturn, 1) := by decide +kernel
theorem dX1_look_142 : decode cX1_look 142 = .ok (.aload_n 0, 1) := by decide +kernel
theorem dX1_look_143 : decode cX1_look 143 = .ok (.invokevirtual 75, 3) := by decide +kernel
theorem dX1_look_146 : decode cX1_look 146 = .ok (.ifCond .eq 17, 3) := by decide +kernel
theorem dX1_look_149 : decode cX1_look 149 = .ok (.aload_n 0, 1) := by decide +kernel
theorem dX1_look_150 : decode cX1_look 150 = .ok (.getfield 36, 3) := by decide +kernel
theorem dX1_look_153 : decode cX1_look 153 = .ok (.aload_n 0, 1) := by decide +kernel
theorem dX1_look_154 : decode cX1_look 154 = .ok (.getfield 65, 3) := by decide +kernel
theorem dX1_look_157 : decode cX1_look 157 = .ok (.iconst 1, 1) := by decide +kernel
theorem dX1_look_158 : decode cX1_look 158 = .ok (.isub, 1) := by decide +kernel
theorem dX1_look_159 : decode cX1_look 159 = .ok (.iaload, 1) := by decide +kernel
theorem dX1_look_160 : decode cX1_look 160 = .ok (.goto 4, 3) := by decide +kernel
theorem dX1_look_163 : decode cX1_look 163 = .ok (.iconst (-1), 1) := by decide +kernel
theorem dX1_look_164 : decode cX1_look 164 = .ok (.ireturn, 1) := by decide +kernel
theorem dX1_look_165 : decode cX1_look 165 = .ok (.aload_n 0, 1) := by decide +kernel
theorem dX1_look_166 : decode cX1_look 166 = .ok (.getfield 26, 3) := by decide +kernel
theorem dX1_look_169 : decode cX1_look 169 = .ok (.iconst 1, 1) := by decide +kernel
theorem dX1_look_170 : decode cX1_look 170 = .ok (.if_icmp .ne 7, 3) := by decide +kernel
theorem dX1_look_173 : decode cX1_look 173 = .ok (.iconst 0, 1) := by decide +kernel
theorem dX1_look_174 : decode cX1_look 174 = .ok (.goto 20, 3) := by decide +kernel
theorem dX1_look_177 : decode cX1_look 177 = .ok (.aload_n 0, 1) := by decide +kernel
theorem dX1_look_178 : decode cX1_look 178 = .ok (.getfield 33, 3) := by decide +kernel
theorem dX1_look_181 : decode cX1_look 181 = .ok (.aload_n 0, 1) := by decide +kernel
theorem dX1_look_182 : decode cX1_look 182 = .ok (.invokevirtual 58, 3) := by decide +kernel
theorem dX1_look_185 : decode cX1_look 185 = .ok (.baload, 1) := by decide +kernel
theorem dX1_look_186 : decode cX1_look 186 = .ok (.ifCond .eq 7, 3) := by decide +kernel
theorem dX1_look_189 : decode cX1_look 189 = .ok (.iconst 2, 1) := by decide +kernel
theorem dX1_look_190 : decode cX1_look 190 = .ok (.goto 4, 3) := by decide +kernel
theorem dX1_look_193 : decode cX1_look 193 = .ok (.iconst 1, 1) := by decide +kernel
theorem dX1_look_194 : decode cX1_look 194 = .ok (.ireturn, 1) := by decide +kernel
theorem dX1_look_195 : decode cX1_look 195 = .ok (.aload_n 0, 1) := by decide +kernel
theorem dX1_look_196 : decode cX1_look 196 = .ok (.invokevirtual 62, 3) := by decide +kernel
theorem dX1_look_199 : decode cX1_look 199 = .ok (.aload_n 0, 1) := by decide +kernel
theorem dX1_look_200 : decode cX1_look 200 = .ok (.getfield 51, 3) := by decide +kernel
theorem dX1_look_203 : decode cX1_look 203 = .ok (.if_icmp .le 15, 3) := by decide +kernel
theorem dX1_look_206 : decode cX1_look 206 = .ok (.aload_n 0, 1) := by decide +kernel
theorem dX1_look_207 : decode cX1_look 207 = .ok (.invokevirtual 62, 3) := by decide +kernel
theorem dX1_look_210 : decode cX1_look 210 = .ok (.aload_n 0, 1) := by decide +kernel
theorem dX1_look_211 : decode cX1_look 211 = .ok (.getfield 51, 3) := by decide +kernel
theorem dX1_look_214 : decode cX1_look 214 = .ok (.isub, 1) := by decide +kernel
theorem dX1_look_215 : decode cX1_look 215 = .ok (.goto 4, 3) := by decide +kernel
theorem dX1_look_218 : decode cX1_look 218 = .ok (.iconst 0, 1) := by decide +kernel
theorem dX1_look_219 : decode cX1_look 219 = .ok (.ireturn, 1) := by decide +kernel
theorem dX1_look_220 : decode cX1_look 220 = .ok (.iconst (-1), 1) := by decide +kernel
theorem dX1_look_221 : decode cX1_look 221 = .ok (.ireturn, 1) := by decide +kernel
def RL : String := "TraceLineLaw"
abbrev cL_law : ByteArray := code
abbrev cL_of : ByteArray := method_3_code
theorem dL_of_0 : decode cL_of 0 = .ok (.aload_n 3, 1) := by decide +kernel
theorem dL_of_1 : decode cL_of 1 = .ok (.iconst 0, 1) := by decide +kernel
theorem dL_of_2 : decode cL_of 2 = .ok (.aload_n 0, 1) := by decide +kernel
theorem dL_of_3 : decode cL_of 3 = .ok (.iload_n 1, 1) := by decide +kernel
theorem dL_of_4 : decode cL_of 4 = .ok (.iload_n 2, 1) := by decide +kernel
theorem dL_of_5 : decode cL_of 5 = .ok (.invokevirtual 7, 3) := by decide +kernel
theorem dL_of_8 : decode cL_of 8 = .ok (.i2l, 1) := by decide +kernel
theorem dL_of_9 : decode cL_of 9 = .ok (.lastore, 1) := by decide +kernel
theorem dL_of_10 : decode cL_of 10 = .ok (.goto 7, 3) := by decide +kernel
theorem dL_of_13 : decode cL_of 13 = .ok (.astore 4, 2) := by decide +kernel
theorem dL_of_15 : decode cL_of 15 = .ok (.iconst 1, 1) := by decide +kernel
theorem dL_of_16 : decode cL_of 16 = .ok (.ireturn, 1) := by decide +kernel
theorem dL_of_17 : decode cL_of 17 = .ok (.iconst 0, 1) := by decide +kernel
theorem dL_of_18 : decode cL_of 18 = .ok (.ireturn, 1) := by decide +kernel
theorem dL_law_0 : decode cL_law 0 = .ok (.new 8, 3) := by decide +kernel
theorem dL_law_3 : decode cL_law 3 = .ok (.dup, 1) := by decide +kernel
theorem dL_law_4 : decode cL_law 4 = .ok (.invokespecial 15, 3) := by decide +kernel
theorem dL_law_7 : decode cL_law 7 = .ok (.astore_n 1, 1) := by decide +kernel
theorem dL_law_8 : decode cL_law 8 = .ok (.new 16, 3) := by decide +kernel
theorem dL_law_11 : decode cL_law 11 = .ok (.dup, 1) := by decide +kernel
theorem dL_law_12 : decode cL_law 12 = .ok (.invokespecial 18, 3) := by decide +kernel
theorem dL_law_15 : decode cL_law 15 = .ok (.astore_n 2, 1) := by decide +kernel
theorem dL_law_16 : decode cL_law 16 = .ok (.iconst 1, 1) := by decide +kernel
theorem dL_law_17 : decode cL_law 17 = .ok (.newarray .long, 2) := by decide +kernel
theorem dL_law_19 : decode cL_law 19 = .ok (.astore_n 3, 1) := by decide +kernel
theorem dL_law_20 : decode cL_law 20 = .ok (.iconst 0, 1) := by decide +kernel
theorem dL_law_21 : decode cL_law 21 = .ok (.istore 4, 2) := by decide +kernel
theorem dL_law_23 : decode cL_law 23 = .ok (.iload 4, 2) := by decide +kernel
theorem dL_law_25 : decode cL_law 25 = .ok (.aload_n 0, 1) := by decide +kernel
theorem dL_law_26 : decode cL_law 26 = .ok (.arraylength, 1) := by decide +kernel
theorem dL_law_27 : decode cL_law 27 = .ok (.iconst 3, 1) := by decide +kernel
theorem dL_law_28 : decode cL_law 28 = .ok (.isub, 1) := by decide +kernel
theorem dL_law_29 : decode cL_law 29 = .ok (.if_icmp .gt 375, 3) := by decide +kernel
theorem dL_law_32 : decode cL_law 32 = .ok (.aload_n 0, 1) := by decide +kernel
theorem dL_law_33 : decode cL_law 33 = .ok (.iload 4, 2) := by decide +kernel
theorem dL_law_35 : decode cL_law 35 = .ok (.iaload, 1) := by decide +kernel
theorem dL_law_36 : decode cL_law 36 = .ok (.bipush 15, 2) := by decide +kernel
theorem dL_law_38 : decode cL_law 38 = .ok (.iand, 1) := by decide +kernel
theorem dL_law_39 : decode cL_law 39 = .ok (.tableswitch 359 0 12 #[65, 90, 103, 128, 153, 166, 191, 204, 217, 230, 241, 309, 334], 65) := by decide +kernel
theorem dL_law_104 : decode cL_law 104 = .ok (.aload_n 1, 1) := by decide +kernel
theorem dL_law_105 : decode cL_law 105 = .ok (.aload_n 0, 1) := by decide +kernel
theorem dL_law_106 : decode cL_law 106 = .ok (.iload 4, 2) := by decide +kernel
theorem dL_law_108 : decode cL_law 108 = .ok (.iconst 1, 1) := by decide +kernel
theorem dL_law_109 : decode cL_law 109 = .ok (.iadd, 1) := by decide +kernel
theorem dL_law_110 : decode cL_law 110 = .ok (.iaload, 1) := by decide +kernel
theorem dL_law_111 : decode cL_law 111 = .ok (.invokevirtual 19, 3) := by decide +kernel
theorem dL_law_114 : decode cL_law 114 = .ok (.aload_n 2, 1) := by decide +kernel
theorem dL_law_115 : decode cL_law 115 = .ok (.aload_n 0, 1) := by decide +kernel
theorem dL_law_116 : decode cL_law 116 = .ok (.iload 4, 2) := by decide +kernel
theorem dL_law_118 : decode cL_law 118 = .ok (.iconst 1, 1) := by decide +kernel
theorem dL_law_119 : decode cL_law 119 = .ok (.iadd, 1) := by decide +kernel
theorem dL_law_120 : decode cL_law 120 = .ok (.iaload, 1) := by decide +kernel
theorem dL_law_121 : decode cL_law 121 = .ok (.invokevirtual 23, 3) := by decide +kernel
theorem dL_law_124 : decode cL_law 124 = .ok (.if_icmp .eq 274, 3) := by decide +kernel
theorem dL_law_127 : decode cL_law 127 = .ok (.iconst 0, 1) := by decide +kernel
theorem dL_law_128 : decode cL_law 128 = .ok (.ireturn, 1) := by decide +kernel
theorem dL_law_129 : decode cL_law 129 = .ok (.aload_n 1, 1) := by decide +kernel
theorem dL_law_130 : decode cL_law 130 = .ok (.invokevirtual 24, 3) := by decide +kernel
theorem dL_law_133 : decode cL_law 133 = .ok (.aload_n 2, 1) := by decide +kernel
theorem dL_law_134 : decode cL_law 134 = .ok (.invokevirtual 28, 3) := by decide +kernel
theorem dL_law_137 : decode cL_law 137 = .ok (.if_icmp .eq 261, 3) := by decide +kernel
theorem dL_law_140 : decode cL_law 140 = .ok (.iconst 0, 1) := by decide +kernel
theorem dL_law_141 : decode cL_law 141 = .ok (.ireturn, 1) := by decide +kernel
theorem dL_law_142 : decode cL_law 142 = .ok (.aload_n 1, 1) := by decide +kernel
theorem dL_law_143 : decode cL_law 143 = .ok (.aload_n 0, 1) := by decide +kernel
theorem dL_law_144 : decode cL_law 144 = .ok (.iload 4, 2) := by decide +kernel
theorem dL_law_146 : decode cL_law 146 = .ok (.iconst 1, 1) := by decide +kernel
theorem dL_law_147 : decode cL_law 147 = .ok (.iadd, 1) := by decide +kernel
theorem dL_law_148 : decode cL_law 148 = .ok (.iaload, 1) := by decide +kernel
theorem dL_law_149 : decode cL_law 149 = .ok (.invokevirtual 29, 3) := by decide +kernel
theorem dL_law_152 : decode cL_law 152 = .ok (.aload_n 2, 1) := by decide +kernel
theorem dL_law_153 : decode cL_law 153 = .ok (.aload_n 0, 1) := by decide +kernel
theorem dL_law_154 : decode cL_law 154 = .ok (.iload 4, 2) := by decide +kernel
theorem dL_law_156 : decode cL_law 156 = .ok (.iconst 1, 1) := by decide +kernel
theorem dL_law_157 : decode cL_law 157 = .ok (.iadd, 1) := by decide +kernel
theorem dL_law_158 : decode cL_law 158 = .ok (.iaload, 1) := by decide +kernel
theorem dL_law_159 : decode cL_law 159 = .ok (.invokevirtual 33, 3) := by decide +kernel
theorem dL_law_162 : decode cL_law 162 = .ok (.if_icmp .eq 236, 3) := by decide +kernel
theorem dL_law_165 : decode cL_law 165 = .ok (.iconst 0, 1) := by decide +kernel
theorem dL_law_166 : decode cL_law 166 = .ok (.ireturn, 1) := by decide +kernel
theorem dL_law_167 : decode cL_law 167 = .ok (.aload_n 1, 1) := by decide +kernel
theorem dL_law_168 : decode cL_law 168 = .ok (.aload_n 0, 1) := by decide +kernel
theorem dL_law_169 : decode cL_law 169 = .ok (.iload 4, 2) := by decide +kernel
theorem dL_law_171 : decode cL_law 171 = .ok (.iconst 1, 1) := by decide +kernel
theorem dL_law_172 : decode cL_law 172 = .ok (.iadd, 1) := by decide +kernel
theorem dL_law_173 : decode cL_law 173 = .ok (.iaload, 1) := by decide +kernel
theorem dL_law_174 : decode cL_law 174 = .ok (.invokevirtual 34, 3) := by decide +kernel
theorem dL_law_177 : decode cL_law 177 = .ok (.aload_n 2, 1) := by decide +kernel
theorem dL_law_178 : decode cL_law 178 = .ok (.aload_n 0, 1) := by decide +kernel
theorem dL_law_179 : decode cL_law 179 = .ok (.iload 4, 2) := by decide +kernel
theorem dL_law_181 : decode cL_law 181 = .ok (.iconst 1, 1) := by decide +kernel
theorem dL_law_182 : decode cL_law 182 = .ok (.iadd, 1) := by decide +kernel
theorem dL_law_183 : decode cL_law 183 = .ok (.iaload, 1) := by decide +kernel
theorem dL_law_184 : decode cL_law 184 = .ok (.invokevirtual 37, 3) := by decide +kernel
theorem dL_law_187 : decode cL_law 187 = .ok (.if_icmp .eq 211, 3) := by decide +kernel
theorem dL_law_190 : decode cL_law 190 = .ok (.iconst 0, 1) := by decide +kernel
theorem dL_law_191 : decode cL_law 191 = .ok (.ireturn, 1) := by decide +kernel
theorem dL_law_192 : decode cL_law 192 = .ok (.aload_n 1, 1) := by decide +kernel
theorem dL_law_193 : decode cL_law 193 = .ok (.invokevirtual 38, 3) := by decide +kernel
theorem dL_law_196 : decode cL_law 196 = .ok (.aload_n 2, 1) := by decide +kernel
theorem dL_law_197 : decode cL_law 197 = .ok (.invokevirtual 41, 3) := by decide +kernel
theorem dL_law_200 : decode cL_law 200 = .ok (.if_icmp .eq 198, 3) := by decide +kernel
theorem dL_law_203 : decode cL_law 203 = .ok (.iconst 0, 1) := by decide +kernel
theorem dL_law_204 : decode cL_law 204 = .ok (.ireturn, 1) := by decide +kernel
theorem dL_law_205 : decode cL_law 205 = .ok (.aload_n 1, 1) := by decide +kernel
theorem dL_law_206 : decode cL_law 206 = .ok (.aload_n 0, 1) := by decide +kernel
theorem dL_law_207 : decode cL_law 207 = .ok (.iload 4, 2) := by decide +kernel
theorem dL_law_209 : decode cL_law 209 = .ok (.iconst 1, 1) := by decide +kernel
theorem dL_law_210 : decode cL_law 210 = .ok (.iadd, 1) := by decide +kernel
theorem dL_law_211 : decode cL_law 211 = .ok (.iaload, 1) := by decide +kernel
theorem dL_law_212 : decode cL_law 212 = .ok (.invokevirtual 42, 3) := by decide +kernel
theorem dL_law_215 : decode cL_law 215 = .ok (.aload_n 2, 1) := by decide +kernel
theorem dL_law_216 : decode cL_law 216 = .ok (.aload_n 0, 1) := by decide +kernel
theorem dL_law_217 : decode cL_law 217 = .ok (.iload 4, 2) := by decide +kernel
theorem dL_law_219 : decode cL_law 219 = .ok (.iconst 1, 1) := by decide +kernel
theorem dL_law_220 : decode cL_law 220 = .ok (.iadd, 1) := by decide +kernel
theorem dL_law_221 : decode cL_law 221 = .ok (.iaload, 1) := by decide +kernel
theorem dL_law_222 : decode cL_law 222 = .ok (.invokevirtual 45, 3) := by decide +kernel
theorem dL_law_225 : decode cL_law 225 = .ok (.if_icmp .eq 173, 3) := by decide +kernel
theorem dL_law_228 : decode cL_law 228 = .ok (.iconst 0, 1) := by decide +kernel
theorem dL_law_229 : decode cL_law 229 = .ok (.ireturn, 1) := by decide +kernel
theorem dL_law_230 : decode cL_law 230 = .ok (.aload_n 1, 1) := by decide +kernel
theorem dL_law_231 : decode cL_law 231 = .ok (.invokevirtual 46, 3) := by decide +kernel
theorem dL_law_234 : decode cL_law 234 = .ok (.aload_n 2, 1) := by decide +kernel
theorem dL_law_235 : decode cL_law 235 = .ok (.invokevirtual 49, 3) := by decide +kernel
theorem dL_law_238 : decode cL_law 238 = .ok (.if_icmp .eq 160, 3) := by decide +kernel
theorem dL_law_241 : decode cL_law 241 = .ok (.iconst 0, 1) := by decide +kernel
theorem dL_law_242 : decode cL_law 242 = .ok (.ireturn, 1) := by decide +kernel
theorem dL_law_243 : decode cL_law 243 = .ok (.aload_n 1, 1) := by decide +kernel
theorem dL_law_244 : decode cL_law 244 = .ok (.invokevirtual 50, 3) := by decide +kernel
theorem dL_law_247 : decode cL_law 247 = .ok (.aload_n 2, 1) := by decide +kernel
theorem dL_law_248 : decode cL_law 248 = .ok (.invokevirtual 54, 3) := by decide +kernel
theorem dL_law_251 : decode cL_law 251 = .ok (.if_icmp .eq 147, 3) := by decide +kernel
theorem dL_law_254 : decode cL_law 254 = .ok (.iconst 0, 1) := by decide +kernel
theorem dL_law_255 : decode cL_law 255 = .ok (.ireturn, 1) := by decide +kernel
theorem dL_law_256 : decode cL_law 256 = .ok (.aload_n 1, 1) := by decide +kernel
theorem dL_law_257 : decode cL_law 257 = .ok (.invokevirtual 55, 3) := by decide +kernel
theorem dL_law_260 : decode cL_law 260 = .ok (.aload_n 2, 1) := by decide +kernel
theorem dL_law_261 : decode cL_law 261 = .ok (.invokevirtual 58, 3) := by decide +kernel
theorem dL_law_264 : decode cL_law 264 = .ok (.if_icmp .eq 134, 3) := by decide +kernel
theorem dL_law_267 : decode cL_law 267 = .ok (.iconst 0, 1) := by decide +kernel
theorem dL_law_268 : decode cL_law 268 = .ok (.ireturn, 1) := by decide +kernel
theorem dL_law_269 : decode cL_law 269 = .ok (.aload_n 1, 1) := by decide +kernel
theorem dL_law_270 : decode cL_law 270 = .ok (.invokevirtual 59, 3) := by decide +kernel
theorem dL_law_273 : decode cL_law 273 = .ok (.aload_n 2, 1) := by decide +kernel
theorem dL_law_274 : decode cL_law 274 = .ok (.invokevirtual 62, 3) := by decide +kernel
theorem dL_law_277 : decode cL_law 277 = .ok (.goto 121, 3) := by decide +kernel
theorem dL_law_280 : decode cL_law 280 = .ok (.aload_n 1, 1) := by decide +kernel
theorem dL_law_281 : decode cL_law 281 = .ok (.aload_n 0, 1) := by decide +kernel
theorem dL_law_282 : decode cL_law 282 = .ok (.iload 4, 2) := by decide +kernel
theorem dL_law_284 : decode cL_law 284 = .ok (.iconst 1, 1) := by decide +kernel
theorem dL_law_285 : decode cL_law 285 = .ok (.iadd, 1) := by decide +kernel
theorem dL_law_286 : decode cL_law 286 = .ok (.iaload, 1) := by decide +kernel
theorem dL_law_287 : decode cL_law 287 = .ok (.aload_n 0, 1) := by decide +kernel
theorem dL_law_288 : decode cL_law 288 = .ok (.iload 4, 2) := by decide +kernel
theorem dL_law_290 : decode cL_law 290 = .ok (.iconst 2, 1) := by decide +kernel
theorem dL_law_291 : decode cL_law 291 = .ok (.iadd, 1) := by decide +kernel
theorem dL_law_292 : decode cL_law 292 = .ok (.iaload, 1) := by decide +kernel
theorem dL_law_293 : decode cL_law 293 = .ok (.aload_n 3, 1) := by decide +kernel
theorem dL_law_294 : decode cL_law 294 = .ok (.invokestatic 63, 3) := by decide +kernel
theorem dL_law_297 : decode cL_law 297 = .ok (.istore 5, 2) := by decide +kernel
theorem dL_law_299 : decode cL_law 299 = .ok (.aload_n 2, 1) := by decide +kernel
theorem dL_law_300 : decode cL_law 300 = .ok (.aload_n 0, 1) := by decide +kernel
theorem dL_law_301 : decode cL_law 301 = .ok (.iload 4, 2) := by decide +kernel
theorem dL_law_303 : decode cL_law 303 = .ok (.iconst 1, 1) := by decide +kernel
theorem dL_law_304 : decode cL_law 304 = .ok (.iadd, 1) := by decide +kernel
theorem dL_law_305 : decode cL_law 305 = .ok (.iaload, 1) := by decide +kernel
theorem dL_law_306 : decode cL_law 306 = .ok (.aload_n 0, 1) := by decide +kernel
theorem dL_law_307 : decode cL_law 307 = .ok (.iload 4, 2) := by decide +kernel
theorem dL_law_309 : decode cL_law 309 = .ok (.iconst 2, 1) := by decide +kernel
theorem dL_law_310 : decode cL_law 310 = .ok (.iadd, 1) := by decide +kernel
theorem dL_law_311 : decode cL_law 311 = .ok (.iaload, 1) := by decide +kernel
theorem dL_law_312 : decode cL_law 312 = .ok (.invokevirtual 68, 3) := by decide +kernel
theorem dL_law_315 : decode cL_law 315 = .ok (.istore 6, 2) := by decide +kernel
theorem dL_law_317 : decode cL_law 317 = .ok (.aload_n 2, 1) := by decide +kernel
theorem dL_law_318 : decode cL_law 318 = .ok (.invokevirtual 69, 3) := by decide +kernel
theorem dL_law_321 : decode cL_law 321 = .ok (.iload 5, 2) := by decide +kernel
theorem dL_law_323 : decode cL_law 323 = .ok (.if_icmp .eq 5, 3) := by decide +kernel
theorem dL_law_326 : decode cL_law 326 = .ok (.iconst 0, 1) := by decide +kernel
theorem dL_law_327 : decode cL_law 327 = .ok (.ireturn, 1) := by decide +kernel
theorem dL_law_328 : decode cL_law 328 = .ok (.iload 5, 2) := by decide +kernel
theorem dL_law_330 : decode cL_law 330 = .ok (.ifCond .ne 15, 3) := by decide +kernel
theorem dL_law_333 : decode cL_law 333 = .ok (.aload_n 3, 1) := by decide +kernel
theorem dL_law_334 : decode cL_law 334 = .ok (.iconst 0, 1) := by decide +kernel
theorem dL_law_335 : decode cL_law 335 = .ok (.laload, 1) := by decide +kernel
theorem dL_law_336 : decode cL_law 336 = .ok (.iload 6, 2) := by decide +kernel
theorem dL_law_338 : decode cL_law 338 = .ok (.i2l, 1) := by decide +kernel
theorem dL_law_339 : decode cL_law 339 = .ok (.lcmp, 1) := by decide +kernel
theorem dL_law_340 : decode cL_law 340 = .ok (.ifCond .eq 5, 3) := by decide +kernel
theorem dL_law_343 : decode cL_law 343 = .ok (.iconst 0, 1) := by decide +kernel
theorem dL_law_344 : decode cL_law 344 = .ok (.ireturn, 1) := by decide +kernel
theorem dL_law_345 : decode cL_law 345 = .ok (.goto 53, 3) := by decide +kernel
theorem dL_law_348 : decode cL_law 348 = .ok (.aload_n 1, 1) := by decide +kernel
theorem dL_law_349 : decode cL_law 349 = .ok (.aload_n 0, 1) := by decide +kernel
theorem dL_law_350 : decode cL_law 350 = .ok (.iload 4, 2) := by decide +kernel
theorem dL_law_352 : decode cL_law 352 = .ok (.iconst 1, 1) := by decide +kernel
theorem dL_law_353 : decode cL_law 353 = .ok (.iadd, 1) := by decide +kernel
theorem dL_law_354 : decode cL_law 354 = .ok (.iaload, 1) := by decide +kernel
theorem dL_law_355 : decode cL_law 355 = .ok (.invokevirtual 72, 3) := by decide +kernel
theorem dL_law_358 : decode cL_law 358 = .ok (.aload_n 2, 1) := by decide +kernel
theorem dL_law_359 : decode cL_law 359 = .ok (.aload_n 0, 1) := by decide +kernel
theorem dL_law_360 : decode cL_law 360 = .ok (.iload 4, 2) := by decide +kernel
theorem dL_law_362 : decode cL_law 362 = .ok (.iconst 1, 1) := by decide +kernel
theorem dL_law_363 : decode cL_law 363 = .ok (.iadd, 1) := by decide +kernel
theorem dL_law_364 : decode cL_law 364 = .ok (.iaload, 1) := by decide +kernel
theorem dL_law_365 : decode cL_law 365 = .ok (.invokevirtual 75, 3) := by decide +kernel
theorem dL_law_368 : decode cL_law 368 = .ok (.if_icmp .eq 30, 3) := by decide +kernel
theorem dL_law_371 : decode cL_law 371 = .ok (.iconst 0, 1) := by decide +kernel
theorem dL_law_372 : decode cL_law 372 = .ok (.ireturn, 1) := by decide +kernel
theorem dL_law_373 : decode cL_law 373 = .ok (.aload_n 1, 1) := by decide +kernel
theorem dL_law_374 : decode cL_law 374 = .ok (.aload_n 0, 1) := by decide +kernel
theorem dL_law_375 : decode cL_law 375 = .ok (.iload 4, 2) := by decide +kernel
theorem dL_law_377 : decode cL_law 377 = .ok (.iconst 1, 1) := by decide +kernel
theorem dL_law_378 : decode cL_law 378 = .ok (.iadd, 1) := by decide +kernel
theorem dL_law_379 : decode cL_law 379 = .ok (.iaload, 1) := by decide +kernel
theorem dL_law_380 : decode cL_law 380 = .ok (.invokevirtual 76, 3) := by decide +kernel
theorem dL_law_383 : decode cL_law 383 = .ok (.aload_n 2, 1) := by decide +kernel
theorem dL_law_384 : decode cL_law 384 = .ok (.aload_n 0, 1) := by decide +kernel
theorem dL_law_385 : decode cL_law 385 = .ok (.iload 4, 2) := by decide +kernel
theorem dL_law_387 : decode cL_law 387 = .ok (.iconst 1, 1) := by decide +kernel
theorem dL_law_388 : decode cL_law 388 = .ok (.iadd, 1) := by decide +kernel
theorem dL_law_389 : decode cL_law 389 = .ok (.iaload, 1) := by decide +kernel
theorem dL_law_390 : decode cL_law 390 = .ok (.invokevirtual 79, 3) := by decide +kernel
theorem dL_law_393 : decode cL_law 393 = .ok (.if_icmp .eq 5, 3) := by decide +kernel
theorem dL_law_396 : decode cL_law 396 = .ok (.iconst 0, 1) := by decide +kernel
theorem dL_law_397 : decode cL_law 397 = .ok (.ireturn, 1) := by decide +kernel
theorem dL_law_398 : decode cL_law 398 = .ok (.iinc 4 3, 3) := by decide +kernel
theorem dL_law_401 : decode cL_law 401 = .ok (.goto (-378), 3) := by decide +kernel
theorem dL_law_404 : decode cL_law 404 = .ok (.iconst 1, 1) := by decide +kernel
theorem dL_law_405 : decode cL_law 405 = .ok (.ireturn, 1) := by decide +kernel
abbrev vwCl : List vw_C := [(RX0, TX0, 17), (RX1, TX1, 17)]
end
section
abbrev zr_ (z : Int) : Prop := -2147483648 ≤ z ∧ z ≤ 2147483647
def zi_ (z : Int) : Int32 := Int32.ofInt z
theorem zi_add (a b : Int) : zi_ a + zi_ b = zi_ (a + b) := (Int32.ofInt_add a b).symm
theorem zi_sub (a b : Int) : zi_ a - zi_ b = zi_ (a - b) := (Int32.ofInt_sub a b).symm
theorem zi_mul (a b : Int) : zi_ a * zi_ b = zi_ (a * b) := (Int32.ofInt_mul a b).symm
theorem zi_toInt {a : Int} (h : zr_ a) : (zi_ a).toInt = a := Int32.toInt_ofInt_of_le (by have := h.1; omega) (by have := h.2; omega)
theorem zi_le {a b : Int} (ha : zr_ a) (hb : zr_ b) : zi_ a ≤ zi_ b ↔ a ≤ b := by rw [Int32.le_iff_toInt_le, zi_toInt ha, zi_toInt hb]
theorem zi_lt {a b : Int} (ha : zr_ a) (hb : zr_ b) : zi_ a < zi_ b ↔ a < b := by rw [Int32.lt_iff_toInt_lt, zi_toInt ha, zi_toInt hb]
theorem zi_eq {a b : Int} (ha : zr_ a) (hb : zr_ b) : zi_ a = zi_ b ↔ a = b := ⟨fun h => by rw [← zi_toInt ha, ← zi_toInt hb, h], fun h => by rw [h]⟩
theorem zi_of (x : Int32) : ∃ z : Int, zr_ z ∧ x = zi_ z := ⟨x.toInt, ⟨by have := Int32.le_toInt x; omega, by have := Int32.toInt_lt x; omega⟩, (Int32.ofInt_toInt x).symm⟩
theorem zi_cl {a : Int} (h0 : 0 ≤ a) (h1 : a ≤ 2147483647) : (zi_ a).toNatClampNeg = a.toNat := Int32.toNatClampNeg_ofInt_of_le (by omega) (by omega)
theorem zi_0 : (0 : Int32) = zi_ 0 := rfl
theorem zi_nI (n : Nat) : nI n = zi_ (n : Int) := Int32.ofInt_eq_ofNat.symm
theorem zi_in {a : Int} {n : Nat} (h : 0 ≤ a ∧ a < n) (hn : n < 2147483648) : vp_in (zi_ a) n := vp_in_iff.mpr (by rw [zi_toInt ⟨by omega, by omega⟩]; exact h)
theorem zi_half {a : Int} (h : 0 ≤ a ∧ a ≤ 2147483647) : zi_ a / zi_ 2 = zi_ (a / 2) := by
  apply Int32.toInt_inj.mp
  rw [Int32.toInt_div_of_ne_right _ _ (by decide), zi_toInt ⟨by omega, by omega⟩, zi_toInt ⟨by omega, by omega⟩, zi_toInt ⟨by omega, by omega⟩]
  exact Int.tdiv_eq_ediv_of_nonneg h.1
theorem zi_rem2 {a : Int} (h : 0 ≤ a ∧ a ≤ 2147483647) : zi_ a - zi_ a / zi_ 2 * zi_ 2 = zi_ (a % 2) := by
  rw [zi_half h, zi_mul, zi_sub]
  congr 1
  omega
def zf_ (f : Int → Int) : Nat → Int32 := fun k => zi_ (f (k : Int))
def up_ (f : Int → Int) (z v : Int) : Int → Int := fun j => if j = z then v else f j
theorem up_s (f : Int → Int) (z v : Int) : up_ f z v z = v := if_pos rfl
theorem up_n {f : Int → Int} {z v j : Int} (h : j ≠ z) : up_ f z v j = f j := if_neg h
theorem zf_at {f : Int → Int} {z : Int} (h0 : 0 ≤ z) (h1 : z ≤ 2147483647) : zf_ f (zi_ z).toNatClampNeg = zi_ (f z) := by
  show zi_ (f _) = _
  rw [zi_cl h0 h1, Int.toNat_of_nonneg h0]
theorem zf_up {f : Int → Int} {z v : Int} (h0 : 0 ≤ z) (h1 : z ≤ 2147483647) : upd (zf_ f) (zi_ z).toNatClampNeg (zi_ v) = zf_ (up_ f z v) := by
  rw [zi_cl h0 h1]
  funext k
  show (if k = z.toNat then zi_ v else zi_ (f k)) = zi_ (if (k : Int) = z then v else f k)
  by_cases h : k = z.toNat
  · rw [if_pos h, if_pos (by omega)]
  · rw [if_neg h, if_neg (by omega)]
def zb_ (z : Int) : Prop := z = 0 ∨ z = 1
theorem zb_nar {z : Int} (h : zb_ z) : vp_nar .boolean (zi_ z) = zi_ z := by
  rcases h with h | h <;> subst h <;> rfl
theorem zb_ret {z : Int} (h : zb_ z) : narrow .boolean (.int (zi_ z)) = .int (zi_ z) := by
  rcases h with h | h <;> subst h <;> rfl
/-- longs -/
def zl_ (z : Int) : Int64 := Int64.ofInt z
abbrev zs_ (z : Int) : Prop := -9223372036854775808 ≤ z ∧ z ≤ 9223372036854775807
theorem zl_add (a b : Int) : zl_ a + zl_ b = zl_ (a + b) := (Int64.ofInt_add a b).symm
theorem zl_toInt {a : Int} (h : zs_ a) : (zl_ a).toInt = a := Int64.toInt_ofInt_of_le (by have := h.1; omega) (by have := h.2; omega)
theorem zl_of {a : Int} (h : zr_ a) : (zi_ a).toInt64 = zl_ a := Int64.toInt_inj.mp (by rw [Int32.toInt_toInt64, zi_toInt h, zl_toInt ⟨by omega, by omega⟩])
theorem zl_to (a : Int) : (zl_ a).toInt32 = zi_ a := Int64.toInt32_ofInt
def sn_ (x y : Int) : Int := if y < x then 1 else if x = y then 0 else -1
theorem sn_cmp {x y : Int} (hx : zs_ x) (hy : zs_ y) : lg_cmp (zl_ x) (zl_ y) = zi_ (sn_ x y) := by
  unfold lg_cmp sn_
  have e1 : (zl_ x > zl_ y) ↔ y < x := by
    show zl_ y < zl_ x ↔ _
    rw [Int64.lt_iff_toInt_lt, zl_toInt hx, zl_toInt hy]
  have e2 : zl_ x = zl_ y ↔ x = y := ⟨fun h => by rw [← zl_toInt hx, ← zl_toInt hy, h], fun h => by rw [h]⟩
  by_cases h1 : y < x
  · rw [if_pos h1, if_pos (e1.mpr h1)]; rfl
  · rw [if_neg h1, if_neg (fun q => h1 (e1.mp q))]
    by_cases h2 : x = y
    · rw [if_pos h2, if_pos (e2.mpr h2)]; rfl
    · rw [if_neg h2, if_neg (fun q => h2 (e2.mp q))]; rfl
theorem sn_le (x y : Int) : sn_ x y ≤ 0 ↔ x ≤ y := by
  unfold sn_
  by_cases h1 : y < x
  · rw [if_pos h1]; omega
  · rw [if_neg h1]
    by_cases h2 : x = y
    · rw [if_pos h2]; omega
    · rw [if_neg h2]; omega
theorem sn_eq (x y : Int) : sn_ x y = 0 ↔ x = y := by
  unfold sn_
  by_cases h1 : y < x
  · rw [if_pos h1]; omega
  · rw [if_neg h1]
    by_cases h2 : x = y
    · rw [if_pos h2]; omega
    · rw [if_neg h2]; omega
theorem sn_zr (x y : Int) : zr_ (sn_ x y) := by
  unfold sn_
  by_cases h1 : y < x
  · rw [if_pos h1]; exact ⟨by decide, by decide⟩
  · rw [if_neg h1]
    by_cases h2 : x = y
    · rw [if_pos h2]; exact ⟨by decide, by decide⟩
    · rw [if_neg h2]; exact ⟨by decide, by decide⟩
abbrev ze_ (p : Program) (c : Code) (cc : ByteArray) : Prop := p.tables.exec = Jvm.exec ∧ c.code = cc
abbrev hp_ (D : va_G) (cl : List vw_C) (A : Nat → Prop) (H0 : Heap) (ws : va_W) (H : Heap) (locs : List Loc) : Prop := va_P D cl ws H ∧ va_D A ws ∧ va_S A H0 H locs
section ZV
variable {p : Program} {l : Launch} {e : Env} {R : Room} {s : State} {m : MethodId} {args : Array Value} {below : List Frame} {meth : Method} {c : Code} {H : Heap} {locs : List Loc} {cells slots : Nat} {Q : State → Prop}
variable {cc : ByteArray} {pc : Nat} {ls : Array Slot} {rest : List Value} {D : va_G} {cl : List vw_C} {A : Nat → Prop} {a : Nat} {tys : List (ClassId × FieldType)} {ws : va_W} {H0 : Heap}

theorem zv_iadd (hE : ze_ p c cc) {x y : Int} (hdg : decode cc pc = .ok (.iadd, 1)) (k : W p l e R s m args below meth c H locs cells slots Q (F0 m (pc + 1) ls (.int (zi_ (x + y)) :: rest))) : W p l e R s m args below meth c H locs cells slots Q (F0 m pc ls (.int (zi_ y) :: .int (zi_ x) :: rest)) := lv_iadd hE.1 hE.2 hdg (by rw [zi_add]; exact k)
theorem zv_isub (hE : ze_ p c cc) {x y : Int} (hdg : decode cc pc = .ok (.isub, 1)) (k : W p l e R s m args below meth c H locs cells slots Q (F0 m (pc + 1) ls (.int (zi_ (x - y)) :: rest))) : W p l e R s m args below meth c H locs cells slots Q (F0 m pc ls (.int (zi_ y) :: .int (zi_ x) :: rest)) := lv_isub hE.1 hE.2 hdg (by rw [zi_sub]; exact k)
theorem zv_imul (hE : ze_ p c cc) {x y : Int} (hdg : decode cc pc = .ok (.imul, 1)) (k : W p l e R s m args below meth c H locs cells slots Q (F0 m (pc + 1) ls (.int (zi_ (x * y)) :: rest))) : W p l e R s m args below meth c H locs cells slots Q (F0 m pc ls (.int (zi_ y) :: .int (zi_ x) :: rest)) := lv_imul hE.1 hE.2 hdg (by rw [zi_mul]; exact k)
theorem zv_half (hE : ze_ p c cc) {x : Int} (h : 0 ≤ x ∧ x ≤ 2147483647) (hdg : decode cc pc = .ok (.idiv, 1)) (k : W p l e R s m args below meth c H locs cells slots Q (F0 m (pc + 1) ls (.int (zi_ (x / 2)) :: rest))) : W p l e R s m args below meth c H locs cells slots Q (F0 m pc ls (.int (zi_ 2) :: .int (zi_ x) :: rest)) := lv_idiv hE.1 hE.2 hdg (by decide) (by rw [zi_half h]; exact k)
theorem zv_rem2 (hE : ze_ p c cc) {x : Int} (h : 0 ≤ x ∧ x ≤ 2147483647) (hdg : decode cc pc = .ok (.irem, 1)) (k : W p l e R s m args below meth c H locs cells slots Q (F0 m (pc + 1) ls (.int (zi_ (x % 2)) :: rest))) : W p l e R s m args below meth c H locs cells slots Q (F0 m pc ls (.int (zi_ 2) :: .int (zi_ x) :: rest)) := lv_irem hE.1 hE.2 hdg (by decide) (by rw [zi_rem2 h]; exact k)
theorem zv_iconst (hE : ze_ p c cc) {n : Int} (hdg : decode cc pc = .ok (.iconst n, 1)) (k : W p l e R s m args below meth c H locs cells slots Q (F0 m (pc + 1) ls (.int (zi_ n) :: rest))) : W p l e R s m args below meth c H locs cells slots Q (F0 m pc ls (rest)) := lv_iconst hE.1 hE.2 hdg rfl k
theorem zv_bipush (hE : ze_ p c cc) {n : Int} (hdg : decode cc pc = .ok (.bipush n, 2)) (hn : (Int8.ofInt n).toInt32 = zi_ n) (k : W p l e R s m args below meth c H locs cells slots Q (F0 m (pc + 2) ls (.int (zi_ n) :: rest))) : W p l e R s m args below meth c H locs cells slots Q (F0 m pc ls (rest)) := lv_bipush hE.1 hE.2 hdg hn k
theorem zv_sipush (hE : ze_ p c cc) {n : Int} (hdg : decode cc pc = .ok (.sipush n, 3)) (hn : (Int16.ofInt n).toInt32 = zi_ n) (k : W p l e R s m args below meth c H locs cells slots Q (F0 m (pc + 3) ls (.int (zi_ n) :: rest))) : W p l e R s m args below meth c H locs cells slots Q (F0 m pc ls (rest)) := lv_sipush hE.1 hE.2 hdg hn k
theorem zv_iinc (hE : ze_ p c cc) {i nL k : Nat} {n x : Int} {lv lv' : List (Nat × Value)} (hdg : decode cc pc = .ok (.iinc i n, 3)) (h : lv_has ls nL lv) (hk : lv[k]? = some (i, .int (zi_ x))) (hn : i < nL) (hl : (i, Value.int (zi_ (x + n))) :: lv.filter (fun q => !(q.1 == i) && !(q.1 + 1 == i && q.2.category == 2)) = lv') (kk : ∀ ls' : Array Slot, lv_has ls' nL lv' → W p l e R s m args below meth c H locs cells slots Q (F0 m (pc + 3) ls' rest)) : W p l e R s m args below meth c H locs cells slots Q (F0 m pc ls (rest)) := lv_iinc hE.1 hE.2 hdg h hk (zi_add x n) hn hl kk
theorem zv_i2l (hE : ze_ p c cc) {x : Int} (hx : zr_ x) (hdg : decode cc pc = .ok (.i2l, 1)) (k : W p l e R s m args below meth c H locs cells slots Q (F0 m (pc + 1) ls (.long (zl_ x) :: rest))) : W p l e R s m args below meth c H locs cells slots Q (F0 m pc ls (.int (zi_ x) :: rest)) := lv_i2l hE.1 hE.2 hdg (zl_of hx) k
theorem zv_l2i (hE : ze_ p c cc) {x : Int} (hdg : decode cc pc = .ok (.l2i, 1)) (k : W p l e R s m args below meth c H locs cells slots Q (F0 m (pc + 1) ls (.int (zi_ x) :: rest))) : W p l e R s m args below meth c H locs cells slots Q (F0 m pc ls (.long (zl_ x) :: rest)) := lv_l2i hE.1 hE.2 hdg (zl_to x) k
theorem zv_ladd (hE : ze_ p c cc) {x y : Int} (hdg : decode cc pc = .ok (.ladd, 1)) (k : W p l e R s m args below meth c H locs cells slots Q (F0 m (pc + 1) ls (.long (zl_ (x + y)) :: rest))) : W p l e R s m args below meth c H locs cells slots Q (F0 m pc ls (.long (zl_ y) :: .long (zl_ x) :: rest)) := lv_ladd hE.1 hE.2 hdg (by rw [zl_add]; exact k)
theorem zv_lcmp (hE : ze_ p c cc) {x y : Int} (hx : zs_ x) (hy : zs_ y) (hdg : decode cc pc = .ok (.lcmp, 1)) (k : W p l e R s m args below meth c H locs cells slots Q (F0 m (pc + 1) ls (.int (zi_ (sn_ x y)) :: rest))) : W p l e R s m args below meth c H locs cells slots Q (F0 m pc ls (.long (zl_ y) :: .long (zl_ x) :: rest)) := W.lcmp hE.1 hE.2 hdg (by rw [sn_cmp hx hy]; exact k)
theorem zv_icmp_eq (hE : ze_ p c cc) {x y off : Int} {tgt : Nat} (hdg : decode cc pc = .ok (.if_icmp .eq off, 3)) (ht : (pc : Int) + off = (tgt : Int)) (hx : zr_ x) (hy : zr_ y) (kt : x = y → W p l e R s m args below meth c H locs cells slots Q (F0 m tgt ls (rest))) (kf : ¬ x = y → W p l e R s m args below meth c H locs cells slots Q (F0 m (pc + 3) ls (rest))) : W p l e R s m args below meth c H locs cells slots Q (F0 m pc ls (.int (zi_ y) :: .int (zi_ x) :: rest)) := lv_icmp_eq hE.1 hE.2 hdg ht (fun h => kt ((zi_eq hx hy).mp h)) (fun h => kf (fun q => h ((zi_eq hx hy).mpr q)))
theorem zv_if_eq (hE : ze_ p c cc) {x off : Int} {tgt : Nat} (hdg : decode cc pc = .ok (.ifCond .eq off, 3)) (ht : (pc : Int) + off = (tgt : Int)) (hx : zr_ x) (kt : x = 0 → W p l e R s m args below meth c H locs cells slots Q (F0 m tgt ls (rest))) (kf : ¬ x = 0 → W p l e R s m args below meth c H locs cells slots Q (F0 m (pc + 3) ls (rest))) : W p l e R s m args below meth c H locs cells slots Q (F0 m pc ls (.int (zi_ x) :: rest)) := lv_if_eq hE.1 hE.2 hdg ht (fun h => kt ((zi_eq hx ⟨by decide, by decide⟩).mp h)) (fun h => kf (fun q => h ((zi_eq hx ⟨by decide, by decide⟩).mpr q)))
theorem zv_icmp_ne (hE : ze_ p c cc) {x y off : Int} {tgt : Nat} (hdg : decode cc pc = .ok (.if_icmp .ne off, 3)) (ht : (pc : Int) + off = (tgt : Int)) (hx : zr_ x) (hy : zr_ y) (kt : x ≠ y → W p l e R s m args below meth c H locs cells slots Q (F0 m tgt ls (rest))) (kf : x = y → W p l e R s m args below meth c H locs cells slots Q (F0 m (pc + 3) ls (rest))) : W p l e R s m args below meth c H locs cells slots Q (F0 m pc ls (.int (zi_ y) :: .int (zi_ x) :: rest)) := lv_icmp_ne hE.1 hE.2 hdg ht (fun h => kt (fun q => h ((zi_eq hx hy).mpr q))) (fun h => kf ((zi_eq hx hy).mp h))
theorem zv_if_ne (hE : ze_ p c cc) {x off : Int} {tgt : Nat} (hdg : decode cc pc = .ok (.ifCond .ne off, 3)) (ht : (pc : Int) + off = (tgt : Int)) (hx : zr_ x) (kt : x ≠ 0 → W p l e R s m args below meth c H locs cells slots Q (F0 m tgt ls (rest))) (kf : x = 0 → W p l e R s m args below meth c H locs cells slots Q (F0 m (pc + 3) ls (rest))) : W p l e R s m args below meth c H locs cells slots Q (F0 m pc ls (.int (zi_ x) :: rest)) := lv_if_ne hE.1 hE.2 hdg ht (fun h => kt (fun q => h ((zi_eq hx ⟨by decide, by decide⟩).mpr q))) (fun h => kf ((zi_eq hx ⟨by decide, by decide⟩).mp h))
theorem zv_icmp_lt (hE : ze_ p c cc) {x y off : Int} {tgt : Nat} (hdg : decode cc pc = .ok (.if_icmp .lt off, 3)) (ht : (pc : Int) + off = (tgt : Int)) (hx : zr_ x) (hy : zr_ y) (kt : x < y → W p l e R s m args below meth c H locs cells slots Q (F0 m tgt ls (rest))) (kf : y ≤ x → W p l e R s m args below meth c H locs cells slots Q (F0 m (pc + 3) ls (rest))) : W p l e R s m args below meth c H locs cells slots Q (F0 m pc ls (.int (zi_ y) :: .int (zi_ x) :: rest)) := lv_icmp_lt hE.1 hE.2 hdg ht (fun h => kt ((zi_lt hx hy).mp h)) (fun h => kf (Int.not_lt.mp (fun q => h ((zi_lt hx hy).mpr q))))
theorem zv_if_lt (hE : ze_ p c cc) {x off : Int} {tgt : Nat} (hdg : decode cc pc = .ok (.ifCond .lt off, 3)) (ht : (pc : Int) + off = (tgt : Int)) (hx : zr_ x) (kt : x < 0 → W p l e R s m args below meth c H locs cells slots Q (F0 m tgt ls (rest))) (kf : 0 ≤ x → W p l e R s m args below meth c H locs cells slots Q (F0 m (pc + 3) ls (rest))) : W p l e R s m args below meth c H locs cells slots Q (F0 m pc ls (.int (zi_ x) :: rest)) := lv_if_lt hE.1 hE.2 hdg ht (fun h => kt ((zi_lt hx ⟨by decide, by decide⟩).mp h)) (fun h => kf (Int.not_lt.mp (fun q => h ((zi_lt hx ⟨by decide, by decide⟩).mpr q))))
theorem zv_icmp_ge (hE : ze_ p c cc) {x y off : Int} {tgt : Nat} (hdg : decode cc pc = .ok (.if_icmp .ge off, 3)) (ht : (pc : Int) + off = (tgt : Int)) (hx : zr_ x) (hy : zr_ y) (kt : y ≤ x → W p l e R s m args below meth c H locs cells slots Q (F0 m tgt ls (rest))) (kf : x < y → W p l e R s m args below meth c H locs cells slots Q (F0 m (pc + 3) ls (rest))) : W p l e R s m args below meth c H locs cells slots Q (F0 m pc ls (.int (zi_ y) :: .int (zi_ x) :: rest)) := lv_icmp_ge hE.1 hE.2 hdg ht (fun h => kt ((zi_le hy hx).mp h)) (fun h => kf (Int.not_le.mp (fun q => h ((zi_le hy hx).mpr q))))
theorem zv_if_ge (hE : ze_ p c cc) {x off : Int} {tgt : Nat} (hdg : decode cc pc = .ok (.ifCond .ge off, 3)) (ht : (pc : Int) + off = (tgt : Int)) (hx : zr_ x) (kt : 0 ≤ x → W p l e R s m args below meth c H locs cells slots Q (F0 m tgt ls (rest))) (kf : x < 0 → W p l e R s m args below meth c H locs cells slots Q (F0 m (pc + 3) ls (rest))) : W p l e R s m args below meth c H locs cells slots Q (F0 m pc ls (.int (zi_ x) :: rest)) := lv_if_ge hE.1 hE.2 hdg ht (fun h => kt ((zi_le ⟨by decide, by decide⟩ hx).mp h)) (fun h => kf (Int.not_le.mp (fun q => h ((zi_le ⟨by decide, by decide⟩ hx).mpr q))))
theorem zv_icmp_gt (hE : ze_ p c cc) {x y off : Int} {tgt : Nat} (hdg : decode cc pc = .ok (.if_icmp .gt off, 3)) (ht : (pc : Int) + off = (tgt : Int)) (hx : zr_ x) (hy : zr_ y) (kt : y < x → W p l e R s m args below meth c H locs cells slots Q (F0 m tgt ls (rest))) (kf : x ≤ y → W p l e R s m args below meth c H locs cells slots Q (F0 m (pc + 3) ls (rest))) : W p l e R s m args below meth c H locs cells slots Q (F0 m pc ls (.int (zi_ y) :: .int (zi_ x) :: rest)) := lv_icmp_gt hE.1 hE.2 hdg ht (fun h => kt ((zi_lt hy hx).mp h)) (fun h => kf (Int.not_lt.mp (fun q => h ((zi_lt hy hx).mpr q))))
theorem zv_if_gt (hE : ze_ p c cc) {x off : Int} {tgt : Nat} (hdg : decode cc pc = .ok (.ifCond .gt off, 3)) (ht : (pc : Int) + off = (tgt : Int)) (hx : zr_ x) (kt : 0 < x → W p l e R s m args below meth c H locs cells slots Q (F0 m tgt ls (rest))) (kf : x ≤ 0 → W p l e R s m args below meth c H locs cells slots Q (F0 m (pc + 3) ls (rest))) : W p l e R s m args below meth c H locs cells slots Q (F0 m pc ls (.int (zi_ x) :: rest)) := lv_if_gt hE.1 hE.2 hdg ht (fun h => kt ((zi_lt ⟨by decide, by decide⟩ hx).mp h)) (fun h => kf (Int.not_lt.mp (fun q => h ((zi_lt ⟨by decide, by decide⟩ hx).mpr q))))
theorem zv_icmp_le (hE : ze_ p c cc) {x y off : Int} {tgt : Nat} (hdg : decode cc pc = .ok (.if_icmp .le off, 3)) (ht : (pc : Int) + off = (tgt : Int)) (hx : zr_ x) (hy : zr_ y) (kt : x ≤ y → W p l e R s m args below meth c H locs cells slots Q (F0 m tgt ls (rest))) (kf : y < x → W p l e R s m args below meth c H locs cells slots Q (F0 m (pc + 3) ls (rest))) : W p l e R s m args below meth c H locs cells slots Q (F0 m pc ls (.int (zi_ y) :: .int (zi_ x) :: rest)) := lv_icmp_le hE.1 hE.2 hdg ht (fun h => kt ((zi_le hx hy).mp h)) (fun h => kf (Int.not_le.mp (fun q => h ((zi_le hx hy).mpr q))))
theorem zv_if_le (hE : ze_ p c cc) {x off : Int} {tgt : Nat} (hdg : decode cc pc = .ok (.ifCond .le off, 3)) (ht : (pc : Int) + off = (tgt : Int)) (hx : zr_ x) (kt : x ≤ 0 → W p l e R s m args below meth c H locs cells slots Q (F0 m tgt ls (rest))) (kf : 0 < x → W p l e R s m args below meth c H locs cells slots Q (F0 m (pc + 3) ls (rest))) : W p l e R s m args below meth c H locs cells slots Q (F0 m pc ls (.int (zi_ x) :: rest)) := lv_if_le hE.1 hE.2 hdg ht (fun h => kt ((zi_le hx ⟨by decide, by decide⟩).mp h)) (fun h => kf (Int.not_le.mp (fun q => h ((zi_le hx ⟨by decide, by decide⟩).mpr q))))
theorem zv_iald (hE : ze_ p c cc) (hK : va_K D cl tys s) (hh : hp_ D cl A H0 ws H locs) (q0 t0 : Nat) {cA : ClassId} {n : Nat} {f : Int → Int} (ha : ws[q0]? = some (a, .inl (cA, n, .inl (zf_ f)))) (ht : tys[t0]? = some (cA, .int)) (hn : n < 2147483648) {z : Int} (hz : 0 ≤ z ∧ z < n) (hdg : decode cc pc = .ok (.iaload, 1)) (kk : W p l e R s m args below meth c H locs cells slots Q (F0 m (pc + 1) ls (.int (zi_ (f z)) :: rest))) : W p l e R s m args below meth c H locs cells slots Q (F0 m pc ls (.int (zi_ z) :: .ref a :: rest)) := va_iald hE.1 hE.2 hK hh.1 q0 t0 ha ht (zi_in hz hn) hdg (by rw [zf_at hz.1 (by omega)]; exact kk)
theorem zv_zald (hE : ze_ p c cc) (hK : va_K D cl tys s) (hh : hp_ D cl A H0 ws H locs) (q0 t0 : Nat) {cA : ClassId} {n : Nat} {f : Int → Int} (ha : ws[q0]? = some (a, .inl (cA, n, .inl (zf_ f)))) (ht : tys[t0]? = some (cA, .boolean)) (hn : n < 2147483648) {z : Int} (hz : 0 ≤ z ∧ z < n) (hdg : decode cc pc = .ok (.baload, 1)) (kk : W p l e R s m args below meth c H locs cells slots Q (F0 m (pc + 1) ls (.int (zi_ (f z)) :: rest))) : W p l e R s m args below meth c H locs cells slots Q (F0 m pc ls (.int (zi_ z) :: .ref a :: rest)) := va_zald hE.1 hE.2 hK hh.1 q0 t0 ha ht (zi_in hz hn) hdg (by rw [zf_at hz.1 (by omega)]; exact kk)
theorem zv_iast (hE : ze_ p c cc) (hK : va_K D cl tys s) (hh : hp_ D cl A H0 ws H locs) (q0 t0 : Nat) {cA : ClassId} {n : Nat} {f : Int → Int} (ha : ws[q0]? = some (a, .inl (cA, n, .inl (zf_ f)))) (ht : tys[t0]? = some (cA, .int)) (hn : n < 2147483648) {z v : Int} (hz : 0 ≤ z ∧ z < n) (hdg : decode cc pc = .ok (.iastore, 1)) {ws' : va_W} (hw : ws.set q0 (a, .inl (cA, n, .inl (zf_ (up_ f z v)))) = ws') (kk : ∀ (H : Heap) (locs : List Loc), hp_ D cl A H0 ws' H locs → W p l e R s m args below meth c H locs cells slots Q (F0 m (pc + 1) ls (rest))) : W p l e R s m args below meth c H locs cells slots Q (F0 m pc ls (.int (zi_ v) :: .int (zi_ z) :: .ref a :: rest)) := va_iast hE.1 hE.2 hK hh.1 hh.2.1 hh.2.2 q0 t0 ha ht (zi_in hz hn) hdg (fun H1 l1 h1 h2 h3 => kk H1 l1 (by rw [zf_up hz.1 (by omega), hw] at h1 h2; exact ⟨h1, h2, h3⟩))
theorem zv_zast (hE : ze_ p c cc) (hK : va_K D cl tys s) (hh : hp_ D cl A H0 ws H locs) (q0 t0 : Nat) {cA : ClassId} {n : Nat} {f : Int → Int} (ha : ws[q0]? = some (a, .inl (cA, n, .inl (zf_ f)))) (ht : tys[t0]? = some (cA, .boolean)) (hn : n < 2147483648) {z v : Int} (hz : 0 ≤ z ∧ z < n) (hv : zb_ v) (hdg : decode cc pc = .ok (.bastore, 1)) {ws' : va_W} (hw : ws.set q0 (a, .inl (cA, n, .inl (zf_ (up_ f z v)))) = ws') (kk : ∀ (H : Heap) (locs : List Loc), hp_ D cl A H0 ws' H locs → W p l e R s m args below meth c H locs cells slots Q (F0 m (pc + 1) ls (rest))) : W p l e R s m args below meth c H locs cells slots Q (F0 m pc ls (.int (zi_ v) :: .int (zi_ z) :: .ref a :: rest)) := va_zast hE.1 hE.2 hK hh.1 hh.2.1 hh.2.2 q0 t0 ha ht (zi_in hz hn) hdg (fun H1 l1 h1 h2 h3 => kk H1 l1 (by rw [zb_nar hv, zf_up hz.1 (by omega), hw] at h1 h2; exact ⟨h1, h2, h3⟩))
theorem ob_get (hE : ze_ p c cc) {own ref C : String} {T : u_T} {N ci index : Nat} {Ts : List Cond} (hts : ∀ w ∈ Ts, w.before args s = true) (hin : ∀ w ∈ u_ws C T N, w ∈ Ts) (hown : s.vm.findClass own = some m.cls) (hK : va_K D cl tys s) (hh : hp_ D cl A H0 ws H locs) (q0 : Nat) {fs : List Value} (he : ws[q0]? = some (a, .inr (ci, fs))) (hc : cl[ci]? = some (C, T, N)) (k : Nat) (hk : k < N) (hr : (T k).1 = ref) (hlink : Cond.fieldLink own index ref (T k).2.1 (T k).2.2.1 ∈ Ts) {v : Value} (hv : fs[k]? = some v) (hdg : decode cc pc = .ok (.getfield index, 3)) (kk : W p l e R s m args below meth c H locs cells slots Q (F0 m (pc + 3) ls (v :: rest))) : W p l e R s m args below meth c H locs cells slots Q (F0 m pc ls (.ref a :: rest)) := va_get (D := D) (ci := ci) (v := v) (C := C) (T := T) (N := N) hE.1 hE.2 hts hin hown hK hh.1 q0 he hc k hk (hts _ hlink) (fun _ h9 => by rw [← hr]; exact h9) hv hdg kk
theorem ob_put (hE : ze_ p c cc) {own ref C : String} {T : u_T} {N ci index : Nat} {Ts : List Cond} (hts : ∀ w ∈ Ts, w.before args s = true) (hin : ∀ w ∈ u_ws C T N, w ∈ Ts) {ty0 : Nat → FieldType} (hty : ∀ k, k < N → parseFieldDescriptor (T k).2.2.1 = some (ty0 k)) (hnm : ∀ a, a < N → ∀ b, b < N → a ≠ b → (T a).2.1 ≠ (T b).2.1) (hown : s.vm.findClass own = some m.cls) (hK : va_K D cl tys s) (hh : hp_ D cl A H0 ws H locs) (q0 : Nat) {fs : List Value} (he : ws[q0]? = some (a, .inr (ci, fs))) (hc : cl[ci]? = some (C, T, N)) (k : Nat) (hk : k < N) (hr : (T k).1 = ref) (hlink : Cond.fieldLink own index ref (T k).2.1 (T k).2.2.1 ∈ Ts) (hfin : (T k).2.2.2 = false) {x : Int} (hd : parseFieldDescriptor (T k).2.2.1 = some .int) (hl : k < fs.length) (hdg : decode cc pc = .ok (.putfield index, 3)) {ws' : va_W} (hw : ws.set q0 (a, .inr (ci, fs.set k (.int (zi_ x)))) = ws') (kk : ∀ (H : Heap) (locs : List Loc), hp_ D cl A H0 ws' H locs → W p l e R s m args below meth c H locs cells slots Q (F0 m (pc + 3) ls (rest))) : W p l e R s m args below meth c H locs cells slots Q (F0 m pc ls (.int (zi_ x) :: .ref a :: rest)) := va_put (D := D) (ci := ci) (v := .int (zi_ x)) (ty := .int) (C := C) (T := T) (N := N) hE.1 hE.2 hts hin ty0 hty hnm hown hK hh.1 hh.2.1 hh.2.2 q0 he hc k hk (hts _ hlink) (fun _ h9 => by rw [← hr]; exact h9) hfin hd rfl rfl hl hdg (fun H1 l1 h1 h2 h3 => kk H1 l1 (by rw [hw] at h1 h2; exact ⟨h1, h2, h3⟩))
end ZV
end
section
section MC
variable {p : Program} {l : Launch} {e : Env} {R : Room} {s : State} {m : MethodId} {args : Array Value} {below : List Frame} {meth : Method} {c : Code} {H : Heap} {locs : List Loc} {cells slots : Nat} {Q : State → Prop}
variable {cc : ByteArray} {pc : Nat} {ls : Array Slot} {rest : List Value} {D : va_G} {cl : List vw_C} {A : Nat → Prop} {b : Nat} {tys : List (ClassId × FieldType)} {H0 : Heap} {S : Type} {wf : S → va_W} {x u : S}
variable {y : MethodName} {bytes : ByteArray} {maxL nL n index ci : Nat} {ret : Option FieldType} {ws ws' : List Cond} {rm : Room} {Ts : List Cond} {own C : String} {As : List Value}
abbrev mc_P (D : va_G) (cl : List vw_C) (tys : List (ClassId × FieldType)) (w0 : va_W) (As : List Value) (sz : Nat) : Array Value → State → Prop := va_Pc As (fun U => U.heap.size = sz ∧ va_P D cl w0 U.heap ∧ va_K D cl tys U ∧ va_D (fun _ => True) w0)
abbrev mc_B {S : Type} (D : va_G) (cl : List vw_C) (tys : List (ClassId × FieldType)) (wf : S → va_W) (A : Nat → Prop) (u : S) (t : State) : Prop := va_P D cl (wf u) t.heap ∧ va_K D cl tys t ∧ va_D A (wf u)
abbrev mc_Qi {S : Type} (D : va_G) (cl : List vw_C) (tys : List (ClassId × FieldType)) (wf : S → va_W) (post : Int → S → Prop) (A : Nat → Prop) : Array Value → State → Outcome → State → Prop := va_Qi (fun (r : Int32) (u : S) => ∃ z : Int, r = zi_ z ∧ post z u) (mc_B D cl tys wf A) A
abbrev mc_Ql {S : Type} (D : va_G) (cl : List vw_C) (tys : List (ClassId × FieldType)) (wf : S → va_W) (post : Int → S → Prop) (A : Nat → Prop) : Array Value → State → Outcome → State → Prop := va_Ql (fun (r : Int64) (u : S) => ∃ z : Int, r = zl_ z ∧ post z u) (mc_B D cl tys wf A) A
abbrev mc_Qv {S : Type} (D : va_G) (cl : List vw_C) (tys : List (ClassId × FieldType)) (wf : S → va_W) (post : S → Prop) (A : Nat → Prop) : Array Value → State → Outcome → State → Prop := va_Qv post (mc_B D cl tys wf A) A
/-- a method that answers an int (or a boolean), in one object's world -/
def mc_i (l : Launch) (D : va_G) (cl : List vw_C) (tys : List (ClassId × FieldType)) (wf : S → va_W) (y : MethodName) (ws : List Cond) (rm : Room) (x : S) (As : List Value) (post : Int → S → Prop) : Prop :=
  ∀ sz : Nat, Met l y ws rm (mc_P D cl tys (wf x) As sz) (mc_Qi D cl tys wf post (va_A (wf x) sz)) 0 0 (va_A (wf x) sz)
def mc_l (l : Launch) (D : va_G) (cl : List vw_C) (tys : List (ClassId × FieldType)) (wf : S → va_W) (y : MethodName) (ws : List Cond) (rm : Room) (x : S) (As : List Value) (post : Int → S → Prop) : Prop :=
  ∀ sz : Nat, Met l y ws rm (mc_P D cl tys (wf x) As sz) (mc_Ql D cl tys wf post (va_A (wf x) sz)) 0 0 (va_A (wf x) sz)
def mc_v (l : Launch) (D : va_G) (cl : List vw_C) (tys : List (ClassId × FieldType)) (wf : S → va_W) (y : MethodName) (ws : List Cond) (rm : Room) (x : S) (As : List Value) (post : S → Prop) : Prop :=
  ∀ sz : Nat, Met l y ws rm (mc_P D cl tys (wf x) As sz) (mc_Qv D cl tys wf post (va_A (wf x) sz)) 0 0 (va_A (wf x) sz)
/-- a static method of numbers alone -/
def mc_s (l : Launch) (y : MethodName) (ws : List Cond) (rm : Room) (As : List Value) (post : Int → Prop) : Prop :=
  ∀ sz : Nat, Met l y ws rm (va_Pc As (fun U => U.heap.size = sz)) (va_Qi (fun (r : Int32) (_ : Unit) => ∃ z : Int, r = zi_ z ∧ post z) (fun _ _ => True) (fun q => sz ≤ q)) 0 0 (fun q => sz ≤ q)
theorem mc_i_of {post : Int → S → Prop} (hy : plainName y.cls = true) (hw : ws = Cond.code y cc maxL ret :: ws') (hn : (lg_sl As).length ≤ maxL)
    (body : ∀ (p : Program) (e : Env) (s : State) (m : MethodId) (below : List Frame) (meth : Method) (c : Code) (A : Nat → Prop) (ls : Array Slot), ze_ p c cc → c.maxLocals = maxL → s.vm.findClass y.cls = some m.cls → (∀ w ∈ ws, w.before As.toArray s = true) → meth.sig.returnType = ret → meth.locks = false → (∀ q, s.heap.size ≤ q → A q) → va_K D cl tys s → hp_ D cl A s.heap (wf x) s.heap [] → lv_has ls maxL (lv_args 0 As) → W p l e rm s m As.toArray below meth c s.heap [] 0 0 (MQ below (mc_Qi D cl tys wf post A) As.toArray s 0 0 A) (F0 m 0 ls [])) : mc_i l D cl tys wf y ws rm x As post := by
  intro sz
  refine Met.ofW (cc := cc) (maxL := maxL) (ret := ret) hy hw ?_
  intro p e s m args below meth c s₁ B hml hv
  obtain ⟨rfl, hsz, hP, hK, hD0⟩ := hv
  subst hsz
  have hl := lv_entry As (n := maxL) hn
  rw [lg_entry_eq]
  exact body p e s m below meth c (va_A (wf x) s.heap.size) _ ⟨B.exec, B.bytes⟩ hml (findClass_of_methodNamed B.named) (atoms_spec (ws := ws) B.pre) B.returns B.notSynchronized (fun q h => Or.inr h) hK ⟨hP, hD0.self, va_S.rf⟩ hl
theorem mc_l_of {post : Int → S → Prop} (hy : plainName y.cls = true) (hw : ws = Cond.code y cc maxL ret :: ws') (hn : (lg_sl As).length ≤ maxL)
    (body : ∀ (p : Program) (e : Env) (s : State) (m : MethodId) (below : List Frame) (meth : Method) (c : Code) (A : Nat → Prop) (ls : Array Slot), ze_ p c cc → c.maxLocals = maxL → s.vm.findClass y.cls = some m.cls → (∀ w ∈ ws, w.before As.toArray s = true) → meth.sig.returnType = ret → meth.locks = false → (∀ q, s.heap.size ≤ q → A q) → va_K D cl tys s → hp_ D cl A s.heap (wf x) s.heap [] → lv_has ls maxL (lv_args 0 As) → W p l e rm s m As.toArray below meth c s.heap [] 0 0 (MQ below (mc_Ql D cl tys wf post A) As.toArray s 0 0 A) (F0 m 0 ls [])) : mc_l l D cl tys wf y ws rm x As post := by
  intro sz
  refine Met.ofW (cc := cc) (maxL := maxL) (ret := ret) hy hw ?_
  intro p e s m args below meth c s₁ B hml hv
  obtain ⟨rfl, hsz, hP, hK, hD0⟩ := hv
  subst hsz
  have hl := lv_entry As (n := maxL) hn
  rw [lg_entry_eq]
  exact body p e s m below meth c (va_A (wf x) s.heap.size) _ ⟨B.exec, B.bytes⟩ hml (findClass_of_methodNamed B.named) (atoms_spec (ws := ws) B.pre) B.returns B.notSynchronized (fun q h => Or.inr h) hK ⟨hP, hD0.self, va_S.rf⟩ hl
theorem mc_v_of {post : S → Prop} (hy : plainName y.cls = true) (hw : ws = Cond.code y cc maxL ret :: ws') (hn : (lg_sl As).length ≤ maxL)
    (body : ∀ (p : Program) (e : Env) (s : State) (m : MethodId) (below : List Frame) (meth : Method) (c : Code) (A : Nat → Prop) (ls : Array Slot), ze_ p c cc → c.maxLocals = maxL → s.vm.findClass y.cls = some m.cls → (∀ w ∈ ws, w.before As.toArray s = true) → meth.sig.returnType = ret → meth.locks = false → (∀ q, s.heap.size ≤ q → A q) → va_K D cl tys s → hp_ D cl A s.heap (wf x) s.heap [] → lv_has ls maxL (lv_args 0 As) → W p l e rm s m As.toArray below meth c s.heap [] 0 0 (MQ below (mc_Qv D cl tys wf post A) As.toArray s 0 0 A) (F0 m 0 ls [])) : mc_v l D cl tys wf y ws rm x As post := by
  intro sz
  refine Met.ofW (cc := cc) (maxL := maxL) (ret := ret) hy hw ?_
  intro p e s m args below meth c s₁ B hml hv
  obtain ⟨rfl, hsz, hP, hK, hD0⟩ := hv
  subst hsz
  have hl := lv_entry As (n := maxL) hn
  rw [lg_entry_eq]
  exact body p e s m below meth c (va_A (wf x) s.heap.size) _ ⟨B.exec, B.bytes⟩ hml (findClass_of_methodNamed B.named) (atoms_spec (ws := ws) B.pre) B.returns B.notSynchronized (fun q h => Or.inr h) hK ⟨hP, hD0.self, va_S.rf⟩ hl
theorem mc_s_of {post : Int → Prop} (hy : plainName y.cls = true) (hw : ws = Cond.code y cc maxL ret :: ws') (hn : (lg_sl As).length ≤ maxL)
    (body : ∀ (p : Program) (e : Env) (s : State) (m : MethodId) (below : List Frame) (meth : Method) (c : Code) (ls : Array Slot), ze_ p c cc → c.maxLocals = maxL → s.vm.findClass y.cls = some m.cls → (∀ w ∈ ws, w.before As.toArray s = true) → meth.sig.returnType = ret → meth.locks = false → lv_has ls maxL (lv_args 0 As) → W p l e rm s m As.toArray below meth c s.heap [] 0 0 (MQ below (va_Qi (fun (r : Int32) (_ : Unit) => ∃ z : Int, r = zi_ z ∧ post z) (fun _ _ => True) (fun q => s.heap.size ≤ q)) As.toArray s 0 0 (fun q => s.heap.size ≤ q)) (F0 m 0 ls [])) : mc_s l y ws rm As post := by
  intro sz
  refine Met.ofW (cc := cc) (maxL := maxL) (ret := ret) hy hw ?_
  intro p e s m args below meth c s₁ B hml hv
  obtain ⟨rfl, hsz⟩ := hv
  subst hsz
  have hl := lv_entry As (n := maxL) hn
  rw [lg_entry_eq]
  exact body p e s m below meth c _ ⟨B.exec, B.bytes⟩ hml (findClass_of_methodNamed B.named) (atoms_spec (ws := ws) B.pre) B.returns B.notSynchronized hl
theorem mc_ret {post : Int → S → Prop} {z : Int} (hE : ze_ p c cc) (hr : meth.sig.returnType = some .int) (hlk : meth.locks = false) (hK : va_K D cl tys s) (hh : hp_ D cl A s.heap (wf u) H locs) (hdg : decode cc pc = .ok (.ireturn, 1)) (hq : post z u) : W p l e R s m args below meth c H locs 0 0 (MQ below (mc_Qi D cl tys wf post A) args s 0 0 A) (F0 m pc ls [.int (zi_ z)]) :=
  W.iret (v := zi_ z) hE.1 hE.2 hr (fun t ht hW => ⟨⟨zi_ z, u, rfl, ⟨z, rfl, hq⟩, by rw [ht]; exact hh.1, va_K.moved hW.alike hK, hh.2.1⟩, hh.2.2.F ht⟩) hh.2.2.2.2 hdg hlk
theorem mc_retz {post : Int → S → Prop} {z : Int} (hE : ze_ p c cc) (hr : meth.sig.returnType = some .boolean) (hlk : meth.locks = false) (hK : va_K D cl tys s) (hh : hp_ D cl A s.heap (wf u) H locs) (hdg : decode cc pc = .ok (.ireturn, 1)) (hz : zb_ z) (hq : post z u) : W p l e R s m args below meth c H locs 0 0 (MQ below (mc_Qi D cl tys wf post A) args s 0 0 A) (F0 m pc ls [.int (zi_ z)]) :=
  W.zret (v := zi_ z) hE.1 hE.2 hr (zb_ret hz) (fun t ht hW => ⟨⟨zi_ z, u, rfl, ⟨z, rfl, hq⟩, by rw [ht]; exact hh.1, va_K.moved hW.alike hK, hh.2.1⟩, hh.2.2.F ht⟩) hh.2.2.2.2 hdg hlk
theorem mc_retl {post : Int → S → Prop} {z : Int} (hE : ze_ p c cc) (hr : meth.sig.returnType = some .long) (hlk : meth.locks = false) (hK : va_K D cl tys s) (hh : hp_ D cl A s.heap (wf u) H locs) (hdg : decode cc pc = .ok (.lreturn, 1)) (hq : post z u) : W p l e R s m args below meth c H locs 0 0 (MQ below (mc_Ql D cl tys wf post A) args s 0 0 A) (F0 m pc ls [.long (zl_ z)]) :=
  W.lret (v := zl_ z) hE.1 hE.2 hr (fun t ht hW => ⟨⟨zl_ z, u, rfl, ⟨z, rfl, hq⟩, by rw [ht]; exact hh.1, va_K.moved hW.alike hK, hh.2.1⟩, hh.2.2.F ht⟩) hh.2.2.2.2 hdg hlk
theorem mc_retv {post : S → Prop} (hE : ze_ p c cc) (hr : meth.sig.returnType = none) (hlk : meth.locks = false) (hK : va_K D cl tys s) (hh : hp_ D cl A s.heap (wf u) H locs) (hdg : decode cc pc = .ok (.return_, 1)) (hq : post u) : W p l e R s m args below meth c H locs 0 0 (MQ below (mc_Qv D cl tys wf post A) args s 0 0 A) (F0 m pc ls []) :=
  W.vret hE.1 hE.2 hr (fun t ht hW => ⟨⟨u, rfl, hq, by rw [ht]; exact hh.1, va_K.moved hW.alike hK, hh.2.1⟩, hh.2.2.F ht⟩) hh.2.2.2.2 hdg hlk
theorem mc_rets {post : Int → Prop} {z : Int} (hE : ze_ p c cc) (hr : meth.sig.returnType = some .boolean) (hlk : meth.locks = false) (hdg : decode cc pc = .ok (.ireturn, 1)) (hz : zb_ z) (hq : post z) : W p l e R s m args below meth c s.heap [] 0 0 (MQ below (va_Qi (fun (r : Int32) (_ : Unit) => ∃ z : Int, r = zi_ z ∧ post z) (fun _ _ => True) (fun q => s.heap.size ≤ q)) args s 0 0 (fun q => s.heap.size ≤ q)) (F0 m pc ls [.int (zi_ z)]) :=
  W.zret (v := zi_ z) hE.1 hE.2 hr (zb_ret hz) (fun t ht hW => ⟨⟨zi_ z, (), rfl, ⟨z, rfl, hq⟩, trivial⟩, by rw [ht]; exact Nat.le_refl _, fun q _ _ => by rw [ht]⟩) (fun q hq => by cases hq) hdg hlk
theorem mc_in (hA : ∀ q, H0.size ≤ q → A q) (hh : hp_ D cl A H0 (wf x) H locs) : ∀ q, va_A (wf x) H.size q → A q := fun q h => by
  rcases h with ⟨k, e, hk⟩ | h
  · exact hh.2.1.2 k _ hk
  · exact hA q (Nat.le_trans hh.2.2.1 h)
theorem mc_pre (hK : va_K D cl tys s) (hh : hp_ D cl A H0 (wf x) H locs) {T : u_T} {N : Nat} {fs : List Value} (hb : (wf x)[0]? = some (b, .inr (ci, fs))) (hc : cl[ci]? = some (C, T, N)) : PreV s H C b (mc_P D cl tys (wf x) (.ref b :: As) H.size) As :=
  ⟨fun a U g mk q => by obtain ⟨q0, q1, qP, qK, qD⟩ := q; exact ⟨q0, q1, qP, va_K.moved (u := U) (U := U.calling g mk a) (Vm.Alike.refl U.vm) qK, qD⟩, va_recv hK hh.1 hc hb, fun U hU hW => ⟨rfl, by rw [hU], by rw [hU]; exact hh.1, va_K.moved hW.alike hK, hh.2.1.weaken (fun _ _ _ _ => trivial)⟩⟩
theorem mc_call {post : Int → S → Prop} (hE : ze_ p c cc) (hml : c.maxLocals = nL) (hown : s.vm.findClass own = some m.cls) (hts : ∀ w ∈ Ts, w.before args s = true) (hA : ∀ q, H0.size ≤ q → A q) (hK : va_K D cl tys s) (hh : hp_ D cl A H0 (wf x) H locs) (hM : mc_i l D cl tys wf y ws rm x (.ref b :: As) post) (cw : CallW R s args own C index y bytes maxL ret ws rm 0 0 n) {T : u_T} {N : Nat} {fs : List Value} (hb : (wf x)[0]? = some (b, .inr (ci, fs))) (hc : cl[ci]? = some (C, T, N)) (hl : ls.size = nL) (hn : As.length = n) (hst : (rest.map fun v => v.category).sum ≤ 8) (hdg : decode cc pc = .ok (.invokevirtual index, 3)) (hroom : cells ≤ R.cells ∧ slots ≤ R.slots) {st : List Value} (hstk : st = As.reverse ++ .ref b :: rest)
    (kk : ∀ (z : Int) (u : S) (H : Heap) (locs : List Loc), post z u → hp_ D cl A H0 (wf u) H locs → W p l e R s m args below meth c H locs cells slots Q (F0 m (pc + 3) ls (.int (zi_ z) :: rest))) : W p l e R s m args below meth c H locs cells slots Q (F0 m pc ls st) := by
  subst hstk
  have hFc := mc_in hA hh
  refine va_calli (va_runV (As := As) (rest := rest) (b := b) (g := F0 m pc ls (As.reverse ++ .ref b :: rest)) ⟨hE.1, hE.2, hml, hown, hts⟩ (hM H.size) cw (mc_pre hK hh hb hc) rfl hn hl rfl (lv_room hst) hdg hroom) hh.2.2 (fun q _ h => hFc q h) hFc (fun r u t H1 locs1 ht hvm hw hB hz hk hS => ?_)
  obtain ⟨z, rfl, hw⟩ := hw
  obtain ⟨h1, h2, h3⟩ := hB
  rw [ht] at h1
  exact kk z u H1 locs1 hw ⟨h1, h3.weaken (fun _ q _ h => hFc q.1 h), hS⟩
theorem mc_calll {post : Int → S → Prop} (hE : ze_ p c cc) (hml : c.maxLocals = nL) (hown : s.vm.findClass own = some m.cls) (hts : ∀ w ∈ Ts, w.before args s = true) (hA : ∀ q, H0.size ≤ q → A q) (hK : va_K D cl tys s) (hh : hp_ D cl A H0 (wf x) H locs) (hM : mc_l l D cl tys wf y ws rm x (.ref b :: As) post) (cw : CallW R s args own C index y bytes maxL ret ws rm 0 0 n) {T : u_T} {N : Nat} {fs : List Value} (hb : (wf x)[0]? = some (b, .inr (ci, fs))) (hc : cl[ci]? = some (C, T, N)) (hl : ls.size = nL) (hn : As.length = n) (hst : (rest.map fun v => v.category).sum ≤ 8) (hdg : decode cc pc = .ok (.invokevirtual index, 3)) (hroom : cells ≤ R.cells ∧ slots ≤ R.slots) {st : List Value} (hstk : st = As.reverse ++ .ref b :: rest)
    (kk : ∀ (z : Int) (u : S) (H : Heap) (locs : List Loc), post z u → hp_ D cl A H0 (wf u) H locs → W p l e R s m args below meth c H locs cells slots Q (F0 m (pc + 3) ls (.long (zl_ z) :: rest))) : W p l e R s m args below meth c H locs cells slots Q (F0 m pc ls st) := by
  subst hstk
  have hFc := mc_in hA hh
  refine va_calll (va_runV (As := As) (rest := rest) (b := b) (g := F0 m pc ls (As.reverse ++ .ref b :: rest)) ⟨hE.1, hE.2, hml, hown, hts⟩ (hM H.size) cw (mc_pre hK hh hb hc) rfl hn hl rfl (lv_room hst) hdg hroom) hh.2.2 (fun q _ h => hFc q h) hFc (fun r u t H1 locs1 ht hvm hw hB hz hk hS => ?_)
  obtain ⟨z, rfl, hw⟩ := hw
  obtain ⟨h1, h2, h3⟩ := hB
  rw [ht] at h1
  exact kk z u H1 locs1 hw ⟨h1, h3.weaken (fun _ q _ h => hFc q.1 h), hS⟩
theorem mc_callv {post : S → Prop} (hE : ze_ p c cc) (hml : c.maxLocals = nL) (hown : s.vm.findClass own = some m.cls) (hts : ∀ w ∈ Ts, w.before args s = true) (hA : ∀ q, H0.size ≤ q → A q) (hK : va_K D cl tys s) (hh : hp_ D cl A H0 (wf x) H locs) (hM : mc_v l D cl tys wf y ws rm x (.ref b :: As) post) (cw : CallW R s args own C index y bytes maxL ret ws rm 0 0 n) {T : u_T} {N : Nat} {fs : List Value} (hb : (wf x)[0]? = some (b, .inr (ci, fs))) (hc : cl[ci]? = some (C, T, N)) (hl : ls.size = nL) (hn : As.length = n) (hst : (rest.map fun v => v.category).sum ≤ 8) (hdg : decode cc pc = .ok (.invokevirtual index, 3)) (hroom : cells ≤ R.cells ∧ slots ≤ R.slots) {st : List Value} (hstk : st = As.reverse ++ .ref b :: rest)
    (kk : ∀ (u : S) (H : Heap) (locs : List Loc), post u → hp_ D cl A H0 (wf u) H locs → W p l e R s m args below meth c H locs cells slots Q (F0 m (pc + 3) ls rest)) : W p l e R s m args below meth c H locs cells slots Q (F0 m pc ls st) := by
  subst hstk
  have hFc := mc_in hA hh
  refine va_callv (va_runV (As := As) (rest := rest) (b := b) (g := F0 m pc ls (As.reverse ++ .ref b :: rest)) ⟨hE.1, hE.2, hml, hown, hts⟩ (hM H.size) cw (mc_pre hK hh hb hc) rfl hn hl rfl (lv_room hst) hdg hroom) hh.2.2 (fun q _ h => hFc q h) hFc (fun u t H1 locs1 ht hvm hw hB hz hk hS => ?_)
  obtain ⟨h1, h2, h3⟩ := hB
  rw [ht] at h1
  exact kk u H1 locs1 hw ⟨h1, h3.weaken (fun _ q _ h => hFc q.1 h), hS⟩
theorem mc_calls {ws9 : va_W} {post : Int → Prop} (hE : ze_ p c cc) (hml : c.maxLocals = nL) (hown : s.vm.findClass own = some m.cls) (hts : ∀ w ∈ Ts, w.before args s = true) (hA : ∀ q, H0.size ≤ q → A q) (hh : hp_ D cl A H0 ws9 H locs) (hM : mc_s l y ws rm As post) (cw : CallB R s args own index y bytes maxL ret ws rm 0 0 n ∧ (Cond.static y).before args s = true) (hl : ls.size = nL) (hn : As.length = n) (hst : (rest.map fun v => v.category).sum ≤ 8) (hdg : decode cc pc = .ok (.invokestatic index, 3)) (hroom : cells ≤ R.cells ∧ slots ≤ R.slots) {st : List Value} (hstk : st = As.reverse ++ rest)
    (kk : ∀ (z : Int) (H : Heap) (locs : List Loc), post z → hp_ D cl A H0 ws9 H locs → W p l e R s m args below meth c H locs cells slots Q (F0 m (pc + 3) ls (.int (zi_ z) :: rest))) : W p l e R s m args below meth c H locs cells slots Q (F0 m pc ls st) := by
  subst hstk
  have hFc : ∀ q, H.size ≤ q → A q := fun q h => hA q (Nat.le_trans hh.2.2.1 h)
  refine va_calli (va_runS (As := As) (rest := rest) (g := F0 m pc ls (As.reverse ++ rest)) ⟨hE.1, hE.2, hml, hown, hts⟩ (hM H.size) cw ⟨fun a U g mk q => ⟨q.1, q.2⟩, fun U hU hW => ⟨rfl, by show U.heap.size = H.size; rw [hU]⟩⟩ rfl hn hl rfl (lv_room hst) hdg hroom) hh.2.2 (fun q _ h => hFc q h) hFc (fun r u t H1 locs1 ht hvm hw hB hz hk hS => ?_)
  obtain ⟨z, rfl, hw⟩ := hw
  exact kk z H1 locs1 hw ⟨hh.1.kept (fun k q hq => hk q.1 (hh.1 k q hq).lt (Nat.not_le.mpr (hh.1 k q hq).lt)), hh.2.1, hS⟩
end MC
end
section
/-- sums over 0 .. n-1 -/
def sg_ (g : Int → Int) : Nat → Int
  | 0 => 0
  | n + 1 => sg_ g n + g (n : Int)
theorem sg_congr {g h : Int → Int} : ∀ (n : Nat), (∀ j : Int, 0 ≤ j → j < n → g j = h j) → sg_ g n = sg_ h n
  | 0, _ => rfl
  | n + 1, H => by
    show sg_ g n + g n = sg_ h n + h n
    rw [sg_congr n (fun j h0 h1 => H j h0 (by omega)), H n (by omega) (by omega)]
theorem sg_up {g h : Int → Int} {i : Int} : ∀ (n : Nat), 0 ≤ i → i < n → (∀ j : Int, 0 ≤ j → j < n → j ≠ i → g j = h j) → sg_ g n = sg_ h n - h i + g i
  | 0, h0, h1, _ => by omega
  | n + 1, h0, h1, H => by
    show sg_ g n + g n = sg_ h n + h n - h i + g i
    by_cases hi : i = (n : Int)
    · subst hi
      rw [sg_congr n (fun j h0 h1 => H j h0 (by omega) (by omega))]
      omega
    · rw [sg_up n h0 (by omega) (fun j h0 h1 h2 => H j h0 (by omega) h2), H n (by omega) (by omega) (fun q => hi q.symm)]
      omega
theorem sg_nn {g : Int → Int} : ∀ (n : Nat), (∀ j : Int, 0 ≤ j → j < n → 0 ≤ g j) → 0 ≤ sg_ g n
  | 0, _ => Int.le_refl 0
  | n + 1, H => by
    show 0 ≤ sg_ g n + g n
    have h1 := sg_nn n (fun j h0 h1 => H j h0 (by omega))
    have h2 := H n (by omega) (by omega)
    omega
theorem sg_one {g : Int → Int} {i : Int} : ∀ (n : Nat), (∀ j : Int, 0 ≤ j → j < n → 0 ≤ g j) → 0 ≤ i → i < n → g i ≤ sg_ g n
  | 0, _, h0, h1 => by omega
  | n + 1, H, h0, h1 => by
    show g i ≤ sg_ g n + g n
    have h2 := H n (by omega) (by omega)
    by_cases hi : i = (n : Int)
    · subst hi
      have h1 := sg_nn n (fun j h0 h1 => H j h0 (by omega))
      omega
    · have h3 := sg_one n (fun j h0 h1 => H j h0 (by omega)) h0 (by omega : i < n)
      omega
theorem sg_le {g : Int → Int} {c : Int} : ∀ (n : Nat), (∀ j : Int, 0 ≤ j → j < n → g j ≤ c) → sg_ g n ≤ n * c
  | 0, _ => by simp [sg_]
  | n + 1, H => by
    show sg_ g n + g n ≤ _
    have h1 := sg_le n (fun j h0 h1 => H j h0 (by omega))
    have h2 := H n (by omega) (by omega)
    have h3 : ((n + 1 : Nat) : Int) * c = n * c + c := by rw [Int.natCast_add, Int.add_mul]; simp
    omega
theorem sg_all {g : Int → Int} : ∀ (n : Nat), (∀ j : Int, 0 ≤ j → j < n → g j = 1) → sg_ g n = n
  | 0, _ => rfl
  | n + 1, H => by
    show sg_ g n + g n = _
    rw [sg_all n (fun j h0 h1 => H j h0 (by omega)), H n (by omega) (by omega)]
    omega
/-- a sum over a stretch from a on -/
def st_ (g : Int → Int) (a : Int) : Nat → Int
  | 0 => 0
  | n + 1 => st_ g a n + g (a + (n : Int))
theorem st_congr {g h : Int → Int} {a : Int} : ∀ (n : Nat), (∀ j : Int, a ≤ j → j < a + n → g j = h j) → st_ g a n = st_ h a n
  | 0, _ => rfl
  | n + 1, H => by
    show st_ g a n + g (a + n) = st_ h a n + h (a + n)
    rw [st_congr n (fun j h0 h1 => H j h0 (by omega)), H (a + n) (by omega) (by omega)]
theorem st_first (g : Int → Int) (a : Int) : ∀ (n : Nat), st_ g a (n + 1) = g a + st_ g (a + 1) n
  | 0 => by simp [st_]
  | n + 1 => by
    show st_ g a (n + 1) + g (a + ((n + 1 : Nat) : Int)) = g a + (st_ g (a + 1) n + g (a + 1 + n))
    rw [st_first g a n, show a + ((n + 1 : Nat) : Int) = a + 1 + n by omega]
    omega
/-- how many of the places ahead of n stay, if those go of which g holds -/
noncomputable def rk_ (g : Int → Prop) : Nat → Int
  | 0 => 0
  | n + 1 => rk_ g n + @ite Int (g (n : Int)) (Classical.propDecidable _) 0 1
theorem rk_go {g : Int → Prop} {n : Nat} (h : g n) : rk_ g (n + 1) = rk_ g n := by
  show rk_ g n + @ite Int (g (n : Int)) (Classical.propDecidable _) 0 1 = _
  rw [if_pos h]; omega
theorem rk_stay {g : Int → Prop} {n : Nat} (h : ¬ g n) : rk_ g (n + 1) = rk_ g n + 1 := by
  show rk_ g n + @ite Int (g (n : Int)) (Classical.propDecidable _) 0 1 = _
  rw [if_neg h]
theorem rk_step (g : Int → Prop) (n : Nat) : rk_ g n ≤ rk_ g (n + 1) ∧ rk_ g (n + 1) ≤ rk_ g n + 1 := by
  by_cases h : g n
  · rw [rk_go h]; omega
  · rw [rk_stay h]; omega
theorem rk_mono {g : Int → Prop} {n : Nat} : ∀ (k : Nat), rk_ g n ≤ rk_ g (n + k) ∧ rk_ g (n + k) ≤ rk_ g n + k
  | 0 => by simp
  | k + 1 => by
    have h1 := rk_mono (g := g) (n := n) k
    have h2 := rk_step g (n + k)
    have h3 : n + (k + 1) = n + k + 1 := by omega
    rw [h3]
    omega
theorem rk_congr {g h : Int → Prop} : ∀ (n : Nat), (∀ j : Int, 0 ≤ j → j < n → (g j ↔ h j)) → rk_ g n = rk_ h n
  | 0, _ => rfl
  | n + 1, H => by
    have h1 := rk_congr n (fun j h0 h1 => H j h0 (by omega))
    have h2 := H n (by omega) (by omega)
    by_cases hg : g n
    · rw [rk_go hg, rk_go (h2.mp hg), h1]
    · rw [rk_stay hg, rk_stay (fun q => hg (h2.mpr q)), h1]
noncomputable def rz_ (g : Int → Prop) (z : Int) : Int := rk_ g z.toNat
theorem rz_0 (g : Int → Prop) : rz_ g 0 = 0 := rfl
theorem rz_go {g : Int → Prop} {z : Int} (h0 : 0 ≤ z) (h : g z) : rz_ g (z + 1) = rz_ g z := by
  unfold rz_
  rw [show (z + 1).toNat = z.toNat + 1 by omega]
  exact rk_go (by rw [Int.toNat_of_nonneg h0]; exact h)
theorem rz_stay {g : Int → Prop} {z : Int} (h0 : 0 ≤ z) (h : ¬ g z) : rz_ g (z + 1) = rz_ g z + 1 := by
  unfold rz_
  rw [show (z + 1).toNat = z.toNat + 1 by omega]
  exact rk_stay (by rw [Int.toNat_of_nonneg h0]; exact h)
theorem rz_mono (g : Int → Prop) {a b : Int} (h0 : 0 ≤ a) (h : a ≤ b) : rz_ g a ≤ rz_ g b ∧ rz_ g b ≤ rz_ g a + (b - a) := by
  unfold rz_
  have h1 := rk_mono (g := g) (n := a.toNat) (b.toNat - a.toNat)
  rw [show a.toNat + (b.toNat - a.toNat) = b.toNat by omega] at h1
  omega
theorem rz_nn (g : Int → Prop) {a : Int} (h0 : 0 ≤ a) : 0 ≤ rz_ g a ∧ rz_ g a ≤ a := by
  have h1 := rz_mono g (Int.le_refl 0) h0
  rw [rz_0] at h1
  omega
/-- a place that stays keeps its order to every other one -/
theorem rz_lt {g : Int → Prop} {a b : Int} (h0 : 0 ≤ a) (hb : 0 ≤ b) (h : ¬ g a) : rz_ g a < rz_ g b ↔ a < b := by
  constructor
  · intro h1
    apply Int.not_le.mp
    intro h2
    have := rz_mono g hb h2
    omega
  · intro h1
    have h2 := rz_stay h0 h
    have h3 := rz_mono g (show 0 ≤ a + 1 by omega) (show a + 1 ≤ b by omega)
    omega
theorem rz_congr {g h : Int → Prop} {z : Int} (H : ∀ j : Int, 0 ≤ j → j < z → (g j ↔ h j)) : rz_ g z = rz_ h z := rk_congr _ (fun j h0 h1 => H j h0 (by omega))
/-- every place ahead of the count is one that stayed -/
theorem rk_onto {g : Int → Prop} : ∀ (n : Nat) (k : Int), 0 ≤ k → k < rk_ g n → ∃ z : Int, 0 ≤ z ∧ z < n ∧ ¬ g z ∧ rz_ g z = k
  | 0, k, h0, h1 => by exact absurd h1 (by show ¬ k < 0; omega)
  | n + 1, k, h0, h1 => by
    by_cases hg : g n
    · rw [rk_go hg] at h1
      obtain ⟨z, a1, a2, a3, a4⟩ := rk_onto n k h0 h1
      exact ⟨z, a1, by omega, a3, a4⟩
    · rw [rk_stay hg] at h1
      by_cases hk : k < rk_ g n
      · obtain ⟨z, a1, a2, a3, a4⟩ := rk_onto n k h0 hk
        exact ⟨z, a1, by omega, a3, a4⟩
      · exact ⟨n, by omega, by omega, hg, by show rk_ g (n : Int).toNat = k; rw [Int.toNat_natCast]; omega⟩
theorem rz_onto {g : Int → Prop} {e k : Int} (he : 0 ≤ e) (h0 : 0 ≤ k) (h1 : k < rz_ g e) : ∃ z : Int, 0 ≤ z ∧ z < e ∧ ¬ g z ∧ rz_ g z = k := by
  obtain ⟨z, a1, a2, a3, a4⟩ := rk_onto e.toNat k h0 h1
  exact ⟨z, a1, by omega, a3, a4⟩
/-- the line, and where each interval's start and end stand in it -/
def pw_ (sa ea ln : Int → Int) (ev : Int) : Prop :=
  (0 ≤ ev ∧ ev ≤ 1200) ∧
  (∀ j : Int, 0 ≤ j → j < 600 → sa j = -1 ∨ (0 ≤ sa j ∧ sa j < ev ∧ ln (sa j) = 2 * j)) ∧
  (∀ j : Int, 0 ≤ j → j < 600 → sa j ≠ -1 → ea j = -1 ∨ (sa j < ea j ∧ ea j < ev ∧ ln (ea j) = 2 * j + 1)) ∧
  (∀ k : Int, 0 ≤ k → k < ev → 0 ≤ ln k ∧ ln k < 1200 ∧ (ln k % 2 = 0 → sa (ln k / 2) = k) ∧ (ln k % 2 = 1 → sa (ln k / 2) ≠ -1 ∧ ea (ln k / 2) = k))
/-- on the way of an insertion: what stood at p and behind it has gone one place on -/
def pu_ (sa ea ln : Int → Int) (ev p : Int) (sa1 ea1 ln1 : Int → Int) : Prop :=
  (∀ k : Int, p < k → k ≤ ev → ln1 k = ln (k - 1)) ∧ (∀ k : Int, k < p → ln1 k = ln k) ∧
  (∀ j : Int, 0 ≤ j → j < 600 → (p ≤ sa j → sa1 j = sa j + 1) ∧ (sa j < p → sa1 j = sa j)) ∧
  (∀ j : Int, 0 ≤ j → j < 600 → (sa j ≠ -1 → p ≤ ea j → ea1 j = ea j + 1) ∧ (sa j = -1 ∨ ea j < p → ea1 j = ea j))
theorem pu_0 {sa ea ln : Int → Int} {ev : Int} (h : pw_ sa ea ln ev) : pu_ sa ea ln ev ev sa ea ln := by
  obtain ⟨h1, h2, h3, h4⟩ := h
  refine ⟨fun k a b => by omega, fun k a => rfl, fun j a b => ⟨fun q => ?_, fun _ => rfl⟩, fun j a b => ⟨fun n q => ?_, fun _ => rfl⟩⟩
  · have := h2 j a b
    omega
  · have := h3 j a b n
    omega
theorem pu_even {sa ea ln : Int → Int} {ev p : Int} {sa1 ea1 ln1 : Int → Int} (h : pw_ sa ea ln ev) (hp : pu_ sa ea ln ev p sa1 ea1 ln1) (h0 : 0 < p) (h1 : p ≤ ev) (he : ln1 (p - 1) % 2 = 0) : pu_ sa ea ln ev (p - 1) (up_ sa1 (ln1 (p - 1) / 2) p) ea1 (up_ ln1 p (ln1 (p - 1))) := by
  obtain ⟨a1, a2, a3, a4⟩ := h
  obtain ⟨b1, b2, b3, b4⟩ := hp
  have e1 : ln1 (p - 1) = ln (p - 1) := b2 (p - 1) (by omega)
  rw [e1] at he ⊢
  obtain ⟨c1, c2, c3, -⟩ := a4 (p - 1) (by omega) (by omega)
  have c4 := c3 he
  have d1 : 0 ≤ ln (p - 1) / 2 ∧ ln (p - 1) / 2 < 600 := by omega
  refine ⟨fun k x y => ?_, fun k x => ?_, fun j x y => ?_, fun j x y => ?_⟩
  · by_cases hk : k = p
    · subst hk; rw [up_s]
    · rw [up_n hk]; exact b1 k (by omega) y
  · rw [up_n (by omega)]; exact b2 k (by omega)
  · by_cases hj : j = ln (p - 1) / 2
    · subst hj; rw [up_s]; omega
    · rw [up_n hj]
      have t1 := b3 j x y
      have t2 := a2 j x y
      have t3 : sa j ≠ p - 1 := fun q => by
        rcases t2 with t | ⟨t, t', t''⟩
        · omega
        · rw [q] at t''; omega
      exact ⟨fun q => t1.1 (by omega), fun q => t1.2 (by omega)⟩
  · have t1 := b4 j x y
    have t2 := a3 j x y
    refine ⟨fun n q => t1.1 n ?_, fun q => t1.2 (by omega)⟩
    rcases t2 n with t | ⟨t, t', t''⟩
    · omega
    · have t3 : ea j ≠ p - 1 := fun q => by rw [q] at t''; omega
      omega
theorem pu_odd {sa ea ln : Int → Int} {ev p : Int} {sa1 ea1 ln1 : Int → Int} (h : pw_ sa ea ln ev) (hp : pu_ sa ea ln ev p sa1 ea1 ln1) (h0 : 0 < p) (h1 : p ≤ ev) (he : ln1 (p - 1) % 2 = 1) : pu_ sa ea ln ev (p - 1) sa1 (up_ ea1 (ln1 (p - 1) / 2) p) (up_ ln1 p (ln1 (p - 1))) := by
  obtain ⟨a1, a2, a3, a4⟩ := h
  obtain ⟨b1, b2, b3, b4⟩ := hp
  have e1 : ln1 (p - 1) = ln (p - 1) := b2 (p - 1) (by omega)
  rw [e1] at he ⊢
  obtain ⟨c1, c2, -, c3⟩ := a4 (p - 1) (by omega) (by omega)
  obtain ⟨c4, c5⟩ := c3 he
  have d1 : 0 ≤ ln (p - 1) / 2 ∧ ln (p - 1) / 2 < 600 := by omega
  refine ⟨fun k x y => ?_, fun k x => ?_, fun j x y => ?_, fun j x y => ?_⟩
  · by_cases hk : k = p
    · subst hk; rw [up_s]
    · rw [up_n hk]; exact b1 k (by omega) y
  · rw [up_n (by omega)]; exact b2 k (by omega)
  · have t1 := b3 j x y
    have t2 := a2 j x y
    have t3 : sa j ≠ p - 1 := fun q => by
      rcases t2 with t | ⟨t, t', t''⟩
      · omega
      · rw [q] at t''; omega
    exact ⟨fun q => t1.1 (by omega), fun q => t1.2 (by omega)⟩
  · by_cases hj : j = ln (p - 1) / 2
    · subst hj; rw [up_s]; omega
    · rw [up_n hj]
      have t1 := b4 j x y
      have t2 := a3 j x y
      refine ⟨fun n q => t1.1 n ?_, fun q => t1.2 (by omega)⟩
      rcases t2 n with t | ⟨t, t', t''⟩
      · omega
      · have t3 : ea j ≠ p - 1 := fun q => by rw [q] at t''; omega
        omega
/-- intervals of which an event stands at a place from a on, ahead of p -/
def fg_ (ln : Int → Int) (a p j : Int) : Prop := ∃ k : Int, a ≤ k ∧ k < p ∧ ln k / 2 = j
theorem fg_0 {ln : Int → Int} {a j : Int} : ¬ fg_ ln a a j := fun ⟨k, h1, h2, _⟩ => by omega
theorem fg_s {ln : Int → Int} {a p j : Int} (h : a ≤ p) : fg_ ln a (p + 1) j ↔ fg_ ln a p j ∨ ln p / 2 = j := by
  constructor
  · intro ⟨k, h1, h2, h3⟩
    by_cases hk : k = p
    · subst hk; exact Or.inr h3
    · exact Or.inl ⟨k, h1, by omega, h3⟩
  · intro q
    rcases q with ⟨k, h1, h2, h3⟩ | q
    · exact ⟨k, h1, by omega, h3⟩
    · exact ⟨p, h, by omega, q⟩
def c1_ (sa : Int → Int) : Int → Int := fun j => if sa j = -1 then 0 else 1
def cw_ (sa f : Int → Int) : Int → Int := fun j => if sa j = -1 then 0 else f j
/-- the numbers that are kept: intervals, stale ones, all weights (K: the whole's own) -/
def ct_ (sa sm wt : Int → Int) (ni ns wa K : Int) : Prop := ni = sg_ (c1_ sa) 600 ∧ ns = sg_ (cw_ sa sm) 600 ∧ wa = K + sg_ (cw_ sa wt) 600
theorem ct_forget {sa sm wt : Int → Int} {ni ns wa K i : Int} (h : ct_ sa sm wt ni ns wa K) (h0 : 0 ≤ i) (h1 : i < 600) (hs : sa i ≠ -1) : ct_ (up_ sa i (-1)) sm wt (ni - 1) (ns - sm i) (wa - wt i) K := by
  obtain ⟨a1, a2, a3⟩ := h
  have e1 : c1_ (up_ sa i (-1)) i = 0 := by unfold c1_; rw [if_pos (up_s _ _ _)]
  have e2 : c1_ sa i = 1 := by unfold c1_; rw [if_neg hs]
  have e3 : ∀ f : Int → Int, cw_ (up_ sa i (-1)) f i = 0 := fun f => by unfold cw_; rw [if_pos (up_s _ _ _)]
  have e4 : ∀ f : Int → Int, cw_ sa f i = f i := fun f => by unfold cw_; rw [if_neg hs]
  have f1 := sg_up (g := c1_ (up_ sa i (-1))) (h := c1_ sa) (i := i) 600 h0 h1 (fun j _ _ hj => by unfold c1_; rw [up_n hj])
  have f2 : ∀ f : Int → Int, sg_ (cw_ (up_ sa i (-1)) f) 600 = sg_ (cw_ sa f) 600 - cw_ sa f i + cw_ (up_ sa i (-1)) f i := fun f => sg_up 600 h0 h1 (fun j _ _ hj => by unfold cw_; rw [up_n hj])
  have g2 := f2 sm
  have g3 := f2 wt
  rw [e3, e4] at g2 g3
  rw [e1, e2] at f1
  exact ⟨by omega, by omega, by omega⟩
/-- the first loop of an erasure: those of [a, p) are gone -/
def e1_ (sa ln : Int → Int) (a p : Int) (sa1 : Int → Int) : Prop := ∀ j : Int, 0 ≤ j → j < 600 → (fg_ ln a p j → sa1 j = -1) ∧ (¬ fg_ ln a p j → sa1 j = sa j)
theorem e1_0 {sa ln : Int → Int} {a : Int} : e1_ sa ln a a sa := fun j _ _ => ⟨fun h => absurd h fg_0, fun _ => rfl⟩
theorem e1_same {sa ln sa1 : Int → Int} {a p : Int} (h : e1_ sa ln a p sa1) (hp : a ≤ p) (hs : sa1 (ln p / 2) = -1) : e1_ sa ln a (p + 1) sa1 := fun j h0 h1 => by
  refine ⟨fun q => ?_, fun q => (h j h0 h1).2 (fun z => q ((fg_s hp).mpr (Or.inl z)))⟩
  rcases (fg_s hp).mp q with q | q
  · exact (h j h0 h1).1 q
  · rw [← q]; exact hs
theorem e1_put {sa ln sa1 : Int → Int} {a p : Int} (h : e1_ sa ln a p sa1) (hp : a ≤ p) : e1_ sa ln a (p + 1) (up_ sa1 (ln p / 2) (-1)) := fun j h0 h1 => by
  by_cases hj : j = ln p / 2
  · subst hj
    rw [up_s]
    exact ⟨fun _ => rfl, fun q => absurd ((fg_s hp).mpr (Or.inr rfl)) q⟩
  · rw [up_n hj]
    refine ⟨fun q => ?_, fun q => (h j h0 h1).2 (fun z => q ((fg_s hp).mpr (Or.inl z)))⟩
    rcases (fg_s hp).mp q with q | q
    · exact (h j h0 h1).1 q
    · exact absurd q.symm hj
/-- the places that go -/
abbrev gp_ (ln : Int → Int) (a b : Int) : Int → Prop := fun k => fg_ ln a b (ln k / 2)
/-- the second loop of an erasure, at place p -/
def e2_ (sa ea ln : Int → Int) (ev a b p : Int) (sa2 ea2 ln2 : Int → Int) : Prop :=
  (∀ k : Int, p ≤ k → k < ev → ln2 k = ln k) ∧ (∀ k : Int, 0 ≤ k → k < p → ¬ gp_ ln a b k → ln2 (rz_ (gp_ ln a b) k) = ln k) ∧
  (∀ j : Int, 0 ≤ j → j < 600 → (sa j = -1 ∨ fg_ ln a b j → sa2 j = -1) ∧ (sa j ≠ -1 → ¬ fg_ ln a b j → ((sa j < p → sa2 j = rz_ (gp_ ln a b) (sa j)) ∧ (p ≤ sa j → sa2 j = sa j)) ∧ (ea j = -1 → ea2 j = -1) ∧ (ea j ≠ -1 → (ea j < p → ea2 j = rz_ (gp_ ln a b) (ea j)) ∧ (p ≤ ea j → ea2 j = ea j))))
theorem e2_0 {sa ea ln sa1 : Int → Int} {ev a b : Int} (hw : pw_ sa ea ln ev) (h : e1_ sa ln a b sa1) : e2_ sa ea ln ev a b 0 sa1 ea ln := by
  obtain ⟨w1, w2, w3, w4⟩ := hw
  refine ⟨fun _ _ _ => rfl, fun k h0 h1 => by omega, fun j h0 h1 => ⟨fun q => ?_, fun n q => ?_⟩⟩
  · obtain ⟨t1, t2⟩ := h j h0 h1
    by_cases hf : fg_ ln a b j
    · exact t1 hf
    · rcases q with q | q
      · rw [t2 hf]; exact q
      · exact absurd q hf
  · have t2 := (h j h0 h1).2 q
    have s1 := w2 j h0 h1
    have s2 := w3 j h0 h1 n
    exact ⟨⟨fun _ => by omega, fun _ => t2⟩, fun z => z, fun z => ⟨fun _ => by omega, fun _ => rfl⟩⟩
theorem e2_there {sa ea ln sa2 ea2 ln2 : Int → Int} {ev a b p : Int} (hw : pw_ sa ea ln ev) (h : e2_ sa ea ln ev a b p sa2 ea2 ln2) (h0 : 0 ≤ p) (h1 : p < ev) : sa2 (ln p / 2) ≠ -1 ↔ ¬ gp_ ln a b p := by
  obtain ⟨w1, w2, w3, w4⟩ := hw
  obtain ⟨b1, b2, b3⟩ := h
  obtain ⟨c1, c2, c3, c4⟩ := w4 p h0 h1
  have d1 : 0 ≤ ln p / 2 := by omega
  have d2 : ln p / 2 < 600 := by omega
  obtain ⟨t1, t2⟩ := b3 (ln p / 2) d1 d2
  have hs : sa (ln p / 2) ≠ -1 := by
    by_cases he : ln p % 2 = 0
    · have := c3 he; omega
    · exact (c4 (by omega)).1
  constructor
  · intro q z
    exact q (t1 (Or.inr z))
  · intro q
    obtain ⟨⟨u1, u2⟩, -⟩ := t2 hs q
    have s1 := w2 _ d1 d2
    by_cases hp : sa (ln p / 2) < p
    · have := rz_nn (gp_ ln a b) (show 0 ≤ sa (ln p / 2) by omega)
      rw [u1 hp]; omega
    · rw [u2 (by omega)]; exact hs
theorem e2_skip {sa ea ln sa2 ea2 ln2 : Int → Int} {ev a b p : Int} (hw : pw_ sa ea ln ev) (h : e2_ sa ea ln ev a b p sa2 ea2 ln2) (h0 : 0 ≤ p) (h1 : p < ev) (hg : gp_ ln a b p) : e2_ sa ea ln ev a b (p + 1) sa2 ea2 ln2 ∧ rz_ (gp_ ln a b) (p + 1) = rz_ (gp_ ln a b) p := by
  obtain ⟨w1, w2, w3, w4⟩ := hw
  obtain ⟨b1, b2, b3⟩ := h
  refine ⟨⟨fun k x y => b1 k (by omega) y, fun k x y z => ?_, fun j x y => ⟨(b3 j x y).1, fun n q => ?_⟩⟩, rz_go h0 hg⟩
  · by_cases hk : k = p
    · subst hk; exact absurd hg z
    · exact b2 k x (by omega) z
  · obtain ⟨⟨u1, u2⟩, u3, u4⟩ := (b3 j x y).2 n q
    have s1 := w2 j x y
    have s2 := w3 j x y n
    have n1 : sa j ≠ p := fun z => by
      rcases s1 with t | ⟨t, t', t''⟩
      · omega
      · rw [z] at t''
        have hg' : fg_ ln a b (ln p / 2) := hg
        rw [show ln p / 2 = j by omega] at hg'
        exact q hg'
    refine ⟨⟨fun z => u1 (by omega), fun z => u2 (by omega)⟩, u3, fun z => ?_⟩
    have n2 : ea j ≠ p := fun z' => by
      rcases s2 with t | ⟨t, t', t''⟩
      · omega
      · rw [z'] at t''
        have hg' : fg_ ln a b (ln p / 2) := hg
        rw [show ln p / 2 = j by omega] at hg'
        exact q hg'
    exact ⟨fun z' => (u4 z).1 (by omega), fun z' => (u4 z).2 (by omega)⟩
theorem e2_keep {sa ea ln sa2 ea2 ln2 : Int → Int} {ev a b p : Int} (hw : pw_ sa ea ln ev) (h : e2_ sa ea ln ev a b p sa2 ea2 ln2) (h0 : 0 ≤ p) (h1 : p < ev) (hg : ¬ gp_ ln a b p) :
    (ln p % 2 = 0 → e2_ sa ea ln ev a b (p + 1) (up_ sa2 (ln p / 2) (rz_ (gp_ ln a b) p)) ea2 (up_ ln2 (rz_ (gp_ ln a b) p) (ln p))) ∧ (ln p % 2 = 1 → e2_ sa ea ln ev a b (p + 1) sa2 (up_ ea2 (ln p / 2) (rz_ (gp_ ln a b) p)) (up_ ln2 (rz_ (gp_ ln a b) p) (ln p))) ∧ rz_ (gp_ ln a b) (p + 1) = rz_ (gp_ ln a b) p + 1 := by
  obtain ⟨w1, w2, w3, w4⟩ := hw
  obtain ⟨b1, b2, b3⟩ := h
  obtain ⟨c1, c2, c3, c4⟩ := w4 p h0 h1
  have r0 := rz_nn (gp_ ln a b) h0
  have L1 : ∀ k : Int, p + 1 ≤ k → k < ev → up_ ln2 (rz_ (gp_ ln a b) p) (ln p) k = ln k := fun k x y => by
    rw [up_n (by omega)]; exact b1 k (by omega) y
  have L2 : ∀ k : Int, 0 ≤ k → k < p + 1 → ¬ gp_ ln a b k → up_ ln2 (rz_ (gp_ ln a b) p) (ln p) (rz_ (gp_ ln a b) k) = ln k := fun k x y z => by
    by_cases hk : k = p
    · subst hk; rw [up_s]
    · have := (rz_lt x h0 z).mpr (show k < p by omega)
      rw [up_n (by omega)]; exact b2 k x (by omega) z
  refine ⟨fun he => ⟨L1, L2, fun j x y => ?_⟩, fun he => ⟨L1, L2, fun j x y => ?_⟩, rz_stay h0 hg⟩
  · have c5 := c3 he
    by_cases hj : j = ln p / 2
    · subst hj
      obtain ⟨t1, t2⟩ := b3 _ x y
      have hg' : ¬ fg_ ln a b (ln p / 2) := hg
      refine ⟨fun q => ?_, fun n q => ?_⟩
      · rcases q with q | q
        · omega
        · exact absurd q hg'
      · obtain ⟨-, u3, u4⟩ := t2 n q
        have s2 := w3 _ x y n
        rw [up_s]
        refine ⟨⟨fun _ => by rw [c5], fun z => by omega⟩, u3, fun z => ⟨fun z' => (u4 z).1 (by omega), fun z' => (u4 z).2 (by omega)⟩⟩
    · rw [up_n hj]
      obtain ⟨t1, t2⟩ := b3 _ x y
      refine ⟨t1, fun n q => ?_⟩
      obtain ⟨⟨u1, u2⟩, u3, u4⟩ := t2 n q
      have s1 := w2 j x y
      have s2 := w3 j x y n
      have n1 : sa j ≠ p := fun z => by
        rcases s1 with t | ⟨t, t', t''⟩
        · omega
        · rw [z] at t''; omega
      refine ⟨⟨fun z => u1 (by omega), fun z => u2 (by omega)⟩, u3, fun z => ?_⟩
      have n2 : ea j ≠ p := fun z' => by
        rcases s2 with t | ⟨t, t', t''⟩
        · omega
        · rw [z'] at t''; omega
      exact ⟨fun z' => (u4 z).1 (by omega), fun z' => (u4 z).2 (by omega)⟩
  · obtain ⟨c5, c6⟩ := c4 he
    obtain ⟨t1, t2⟩ := b3 _ x y
    refine ⟨t1, fun n q => ?_⟩
    obtain ⟨⟨u1, u2⟩, u3, u4⟩ := t2 n q
    have s1 := w2 j x y
    have s2 := w3 j x y n
    have n1 : sa j ≠ p := fun z => by
      rcases s1 with t | ⟨t, t', t''⟩
      · omega
      · rw [z] at t''; omega
    refine ⟨⟨fun z => u1 (by omega), fun z => u2 (by omega)⟩, ?_⟩
    by_cases hj : j = ln p / 2
    · subst hj
      rw [up_s]
      exact ⟨fun z => by omega, fun z => ⟨fun _ => by rw [c6], fun z' => by omega⟩⟩
    · rw [up_n hj]
      have n2 : ea j ≠ p := fun z' => by
        rcases s2 with t | ⟨t, t', t''⟩
        · omega
        · rw [z'] at t''; omega
      exact ⟨u3, fun z => ⟨fun z' => (u4 z).1 (by omega), fun z' => (u4 z).2 (by omega)⟩⟩
/-- behind an erasure of the places [a, b) -/
def er_ (sa ea ln : Int → Int) (ev a b : Int) (sa2 ea2 ln2 : Int → Int) : Prop :=
  (∀ k : Int, 0 ≤ k → k < ev → ¬ gp_ ln a b k → ln2 (rz_ (gp_ ln a b) k) = ln k) ∧
  (∀ j : Int, 0 ≤ j → j < 600 → (sa j = -1 ∨ fg_ ln a b j → sa2 j = -1) ∧ (sa j ≠ -1 → ¬ fg_ ln a b j → sa2 j = rz_ (gp_ ln a b) (sa j) ∧ (ea j = -1 → ea2 j = -1) ∧ (ea j ≠ -1 → ea2 j = rz_ (gp_ ln a b) (ea j))))
theorem er_of {sa ea ln sa2 ea2 ln2 : Int → Int} {ev a b : Int} (hw : pw_ sa ea ln ev) (h : e2_ sa ea ln ev a b ev sa2 ea2 ln2) : er_ sa ea ln ev a b sa2 ea2 ln2 := by
  obtain ⟨w1, w2, w3, w4⟩ := hw
  obtain ⟨b1, b2, b3⟩ := h
  refine ⟨b2, fun j x y => ⟨(b3 j x y).1, fun n q => ?_⟩⟩
  obtain ⟨⟨u1, u2⟩, u3, u4⟩ := (b3 j x y).2 n q
  have s1 := w2 j x y
  have s2 := w3 j x y n
  exact ⟨u1 (by omega), u3, fun z => (u4 z).1 (by omega)⟩
theorem er_pw {sa ea ln sa2 ea2 ln2 : Int → Int} {ev a b : Int} (hw : pw_ sa ea ln ev) (h : er_ sa ea ln ev a b sa2 ea2 ln2) : pw_ sa2 ea2 ln2 (rz_ (gp_ ln a b) ev) := by
  obtain ⟨w1, w2, w3, w4⟩ := hw
  obtain ⟨b2, b3⟩ := h
  have r0 := rz_nn (gp_ ln a b) w1.1
  refine ⟨by omega, fun j x y => ?_, fun j x y n => ?_, fun k x y => ?_⟩
  · by_cases hs : sa j = -1 ∨ fg_ ln a b j
    · exact Or.inl ((b3 j x y).1 hs)
    · have hs1 : sa j ≠ -1 := fun z => hs (Or.inl z)
      have hs2 : ¬ fg_ ln a b j := fun z => hs (Or.inr z)
      obtain ⟨u1, -⟩ := (b3 j x y).2 hs1 hs2
      rcases w2 j x y with t | ⟨t, t', t''⟩
      · exact absurd t hs1
      · have hk : ¬ gp_ ln a b (sa j) := by
          show ¬ fg_ ln a b (ln (sa j) / 2)
          rw [t'', show 2 * j / 2 = j by omega]; exact hs2
        have q1 := rz_nn (gp_ ln a b) t
        have q2 := (rz_lt t w1.1 hk).mpr t'
        refine Or.inr ⟨by omega, by omega, ?_⟩
        rw [u1, b2 _ t t' hk]; exact t''
  · by_cases hs : sa j = -1 ∨ fg_ ln a b j
    · exact absurd ((b3 j x y).1 hs) n
    · have hs1 : sa j ≠ -1 := fun z => hs (Or.inl z)
      have hs2 : ¬ fg_ ln a b j := fun z => hs (Or.inr z)
      obtain ⟨u1, u2, u3⟩ := (b3 j x y).2 hs1 hs2
      rcases w2 j x y with t | ⟨t, t', t''⟩
      · exact absurd t hs1
      rcases w3 j x y hs1 with v | ⟨v, v', v''⟩
      · exact Or.inl (u2 v)
      · have hk : ¬ gp_ ln a b (sa j) := by
          show ¬ fg_ ln a b (ln (sa j) / 2)
          rw [t'', show 2 * j / 2 = j by omega]; exact hs2
        have hk' : ¬ gp_ ln a b (ea j) := by
          show ¬ fg_ ln a b (ln (ea j) / 2)
          rw [v'', show (2 * j + 1) / 2 = j by omega]; exact hs2
        have q1 := (rz_lt t (show 0 ≤ ea j by omega) hk).mpr v
        have q2 := (rz_lt (show 0 ≤ ea j by omega) w1.1 hk').mpr v'
        have e3 := u3 (by omega)
        refine Or.inr ⟨by omega, by omega, ?_⟩
        rw [e3, b2 _ (by omega) v' hk']; exact v''
  · obtain ⟨z, z0, z1, z2, z3⟩ := rz_onto w1.1 x y
    obtain ⟨c1, c2, c3, c4⟩ := w4 z z0 z1
    have d1 : 0 ≤ ln z / 2 := by omega
    have d2 : ln z / 2 < 600 := by omega
    have e1 : ln2 k = ln z := by rw [← z3]; exact b2 z z0 z1 z2
    rw [e1]
    refine ⟨c1, c2, fun he => ?_, fun he => ?_⟩
    · have c5 := c3 he
      rw [((b3 _ d1 d2).2 (by omega) z2).1, c5]; exact z3
    · obtain ⟨c5, c6⟩ := c4 he
      obtain ⟨u1, u2, u3⟩ := (b3 _ d1 d2).2 c5 z2
      have s1 := w2 _ d1 d2
      have q1 := rz_nn (gp_ ln a b) (show 0 ≤ sa (ln z / 2) by omega)
      exact ⟨by omega, by rw [u3 (by omega), c6]; exact z3⟩
/-- the reference's insertion, on its way -/
def mp_ (ml : Int → Int) (ev p : Int) (ml1 : Int → Int) : Prop := (∀ k : Int, p < k → k ≤ ev → ml1 k = ml (k - 1)) ∧ (∀ k : Int, k < p → ml1 k = ml k)
theorem mp_0 {ml : Int → Int} {ev : Int} : mp_ ml ev ev ml := ⟨fun k a b => by omega, fun k a => rfl⟩
theorem mp_s {ml ml1 : Int → Int} {ev p : Int} (h : mp_ ml ev p ml1) (h0 : 0 < p) : mp_ ml ev (p - 1) (up_ ml1 p (ml1 (p - 1))) := by
  obtain ⟨b1, b2⟩ := h
  refine ⟨fun k x y => ?_, fun k x => ?_⟩
  · by_cases hk : k = p
    · subst hk; rw [up_s]; exact b2 _ (by omega)
    · rw [up_n hk]; exact b1 k (by omega) y
  · rw [up_n (by omega)]; exact b2 k (by omega)
/-- the marks of an erasure, on their way -/
def mg_ (ml : Int → Int) (a p : Int) (g : Int → Int) : Prop := ∀ j : Int, 0 ≤ j → j < 600 → (fg_ ml a p j → g j = 1) ∧ (¬ fg_ ml a p j → g j = 0)
theorem mg_0 {ml g : Int → Int} {a : Int} (h : ∀ j : Int, 0 ≤ j → j < 600 → g j = 0) : mg_ ml a a g := fun j h0 h1 => ⟨fun q => absurd q fg_0, fun _ => h j h0 h1⟩
theorem mg_s {ml g : Int → Int} {a p : Int} (h : mg_ ml a p g) (hp : a ≤ p) : mg_ ml a (p + 1) (up_ g (ml p / 2) 1) := fun j h0 h1 => by
  by_cases hj : j = ml p / 2
  · subst hj
    rw [up_s]
    exact ⟨fun _ => rfl, fun q => absurd ((fg_s hp).mpr (Or.inr rfl)) q⟩
  · rw [up_n hj]
    refine ⟨fun q => ?_, fun q => (h j h0 h1).2 (fun z => q ((fg_s hp).mpr (Or.inl z)))⟩
    rcases (fg_s hp).mp q with q | q
    · exact (h j h0 h1).1 q
    · exact absurd q.symm hj
/-- the reference's third loop of an erasure, at place p -/
def m3_ (ml : Int → Int) (ev cu a b p : Int) (ml2 : Int → Int) (cu2 : Int) : Prop :=
  (∀ k : Int, p ≤ k → k < ev → ml2 k = ml k) ∧ (∀ k : Int, 0 ≤ k → k < p → ¬ gp_ ml a b k → ml2 (rz_ (gp_ ml a b) k) = ml k) ∧ (p ≤ cu → cu2 = cu - p + rz_ (gp_ ml a b) p) ∧ (cu ≤ p → cu2 = rz_ (gp_ ml a b) cu)
theorem m3_0 {ml : Int → Int} {ev cu a b : Int} (h : 0 ≤ cu) : m3_ ml ev cu a b 0 ml cu :=
  ⟨fun _ _ _ => rfl, fun k x y => by omega, fun _ => by rw [rz_0]; omega, fun x => by rw [show cu = 0 by omega, rz_0]⟩
theorem m3_go {ml ml2 : Int → Int} {ev cu a b p cu2 : Int} (h : m3_ ml ev cu a b p ml2 cu2) (h0 : 0 ≤ p) (hc : 0 ≤ cu) (hg : gp_ ml a b p) : m3_ ml ev cu a b (p + 1) ml2 (if p < cu then cu2 - 1 else cu2) ∧ rz_ (gp_ ml a b) (p + 1) = rz_ (gp_ ml a b) p := by
  obtain ⟨b1, b2, b3, b4⟩ := h
  have r := rz_go h0 hg
  refine ⟨⟨fun k x y => b1 k (by omega) y, fun k x y z => ?_, fun x => ?_, fun x => ?_⟩, r⟩
  · by_cases hk : k = p
    · subst hk; exact absurd hg z
    · exact b2 k x (by omega) z
  · have := b3 (by omega)
    rw [if_pos (by omega)]; omega
  · by_cases hq : p < cu
    · have e : cu = p + 1 := by omega
      have := b3 (by omega)
      rw [if_pos hq, e, r]; omega
    · rw [if_neg hq]; exact b4 (by omega)
theorem m3_keep {ml ml2 : Int → Int} {ev cu a b p cu2 : Int} (h : m3_ ml ev cu a b p ml2 cu2) (h0 : 0 ≤ p) (h1 : p < ev) (hc : 0 ≤ cu) (hg : ¬ gp_ ml a b p) : m3_ ml ev cu a b (p + 1) (up_ ml2 (rz_ (gp_ ml a b) p) (ml2 p)) cu2 ∧ rz_ (gp_ ml a b) (p + 1) = rz_ (gp_ ml a b) p + 1 := by
  obtain ⟨b1, b2, b3, b4⟩ := h
  have r := rz_stay h0 hg
  have r0 := rz_nn (gp_ ml a b) h0
  have e0 := b1 p (by omega) h1
  refine ⟨⟨fun k x y => ?_, fun k x y z => ?_, fun x => ?_, fun x => ?_⟩, r⟩
  · rw [up_n (by omega)]; exact b1 k (by omega) y
  · by_cases hk : k = p
    · subst hk; rw [up_s]; exact e0
    · have := (rz_lt x h0 z).mpr (show k < p by omega)
      rw [up_n (by omega)]; exact b2 k x (by omega) z
  · have := b3 (by omega)
    omega
  · by_cases hq : cu = p + 1
    · have := b3 (by omega)
      rw [hq, r]; omega
    · exact b4 (by omega)
theorem pw_zr {sa ea ln : Int → Int} {ev j : Int} (hw : pw_ sa ea ln ev) (h0 : 0 ≤ j) (h1 : j < 600) : zr_ (sa j) := by
  have w1 := hw.1
  have w2 := hw.2.1 j h0 h1
  exact ⟨by omega, by omega⟩
theorem e1_zr {sa ea ln sa1 : Int → Int} {ev a p j : Int} (hw : pw_ sa ea ln ev) (h : e1_ sa ln a p sa1) (h0 : 0 ≤ j) (h1 : j < 600) : zr_ (sa1 j) := by
  have t := pw_zr hw h0 h1
  by_cases hf : fg_ ln a p j
  · rw [(h j h0 h1).1 hf]; exact ⟨by omega, by omega⟩
  · rw [(h j h0 h1).2 hf]; exact t
theorem e2_zr {sa ea ln sa2 ea2 ln2 : Int → Int} {ev a b p j : Int} (hw : pw_ sa ea ln ev) (h : e2_ sa ea ln ev a b p sa2 ea2 ln2) (h0 : 0 ≤ j) (h1 : j < 600) : zr_ (sa2 j) := by
  have w1 := hw.1
  have w2 := hw.2.1 j h0 h1
  obtain ⟨b1, b2, b3⟩ := h
  by_cases hf : sa j = -1 ∨ fg_ ln a b j
  · rw [(b3 j h0 h1).1 hf]; exact ⟨by omega, by omega⟩
  · obtain ⟨⟨u1, u2⟩, -⟩ := (b3 j h0 h1).2 (fun z => hf (Or.inl z)) (fun z => hf (Or.inr z))
    have hs : sa j ≠ -1 := fun z => hf (Or.inl z)
    by_cases hp : sa j < p
    · have := rz_nn (gp_ ln a b) (show 0 ≤ sa j by omega)
      rw [u1 hp]; exact ⟨by omega, by omega⟩
    · rw [u2 (by omega)]; exact ⟨by omega, by omega⟩
theorem ct_same {sa sa' sm wt : Int → Int} {ni ns wa K : Int} (h : ct_ sa sm wt ni ns wa K) (hs : ∀ j : Int, 0 ≤ j → j < 600 → (sa j = -1 ↔ sa' j = -1)) : ct_ sa' sm wt ni ns wa K := by
  obtain ⟨a1, a2, a3⟩ := h
  have e : ∀ f : Int → Int, sg_ (cw_ sa f) 600 = sg_ (cw_ sa' f) 600 := fun f => sg_congr 600 (fun j h0 h1 => by
    unfold cw_
    by_cases hq : sa j = -1
    · rw [if_pos hq, if_pos ((hs j h0 h1).mp hq)]
    · rw [if_neg hq, if_neg (fun z => hq ((hs j h0 h1).mpr z))])
  have e1 : sg_ (c1_ sa) 600 = sg_ (c1_ sa') 600 := sg_congr 600 (fun j h0 h1 => by
    unfold c1_
    by_cases hq : sa j = -1
    · rw [if_pos hq, if_pos ((hs j h0 h1).mp hq)]
    · rw [if_neg hq, if_neg (fun z => hq ((hs j h0 h1).mpr z))])
  exact ⟨by rw [← e1]; exact a1, by rw [← e]; exact a2, by rw [← e]; exact a3⟩
theorem er_ct {sa ea ln sa1 sa2 ea2 ln2 sm wt : Int → Int} {ev a b ni ns wa K : Int} (hw : pw_ sa ea ln ev) (h1 : e1_ sa ln a b sa1) (hc : ct_ sa1 sm wt ni ns wa K) (h : er_ sa ea ln ev a b sa2 ea2 ln2) : ct_ sa2 sm wt ni ns wa K := by
  refine ct_same hc (fun j x y => ?_)
  obtain ⟨b2, b3⟩ := h
  by_cases hf : fg_ ln a b j
  · rw [(h1 j x y).1 hf, (b3 j x y).1 (Or.inr hf)]
  · rw [(h1 j x y).2 hf]
    by_cases hs : sa j = -1
    · rw [hs, (b3 j x y).1 (Or.inl hs)]
    · have w2 := hw.2.1 j x y
      have := rz_nn (gp_ ln a b) (show 0 ≤ sa j by omega)
      rw [((b3 j x y).2 hs hf).1]
      omega
/-- how far the events ahead go; where an interval's events end -/
def lm_ (fi ea : Int → Int) (ev fr : Int) : Int := if fi (fr - 1) = -1 then ev else ea (fi (fr - 1))
def ut_ (ea : Int → Int) (ev i : Int) : Int := if ea i = -1 then ev else ea i
/-- the first place of [a, b) of a kind, and what is read there -/
def fs_ (P : Int → Prop) (v : Int → Int) (a b z : Int) : Prop := (z = -1 ∧ ∀ k : Int, a ≤ k → k < b → ¬ P k) ∨ (∃ k : Int, a ≤ k ∧ k < b ∧ P k ∧ z = v k ∧ ∀ j : Int, a ≤ j → j < k → ¬ P j)
/-- the last one -/
def fl_ (P : Int → Prop) (v : Int → Int) (a b z : Int) : Prop := (z = -1 ∧ ∀ k : Int, a ≤ k → k < b → ¬ P k) ∨ (∃ k : Int, a ≤ k ∧ k < b ∧ P k ∧ z = v k ∧ ∀ j : Int, k < j → j < b → ¬ P j)
def we_ (ln wt : Int → Int) : Int → Int := fun k => if ln k % 2 = 0 then wt (ln k / 2) else 0
theorem st_go {g : Int → Int} {a p : Int} (h : a ≤ p) : st_ g a (p + 1 - a).toNat = st_ g a (p - a).toNat + g p := by
  rw [show (p + 1 - a).toNat = (p - a).toNat + 1 by omega]
  show st_ g a (p - a).toNat + g (a + ((p - a).toNat : Int)) = _
  rw [show a + ((p - a).toNat : Int) = p by omega]
end
section
/-- where a frame's open intervals are to be ended: at the cursor, or behind the end of the interval of the frame upon it -/
def cl_ (ea : Int → Int) (cu : Int) (fi : Int → Int) (fr f : Int) : Int := if f + 1 < fr then ea (fi (f + 1)) + 1 else cu
/-- the intervals lie in one another; the frames' too, around the cursor; the open ones begin ahead of it -/
def nv_ (sa ea : Int → Int) (cu : Int) (fi fo : Int → Int) (fr : Int) (op : Int → Int) (oo : Int) : Prop :=
  (∀ a b : Int, 0 ≤ a → a < 600 → 0 ≤ b → b < 600 → sa a ≠ -1 → sa b ≠ -1 → ea a ≠ -1 → ea b ≠ -1 → sa a < sa b → sa b < ea a → ea b < ea a) ∧
  (∀ f : Int, 1 ≤ f → f < fr → 0 ≤ fi f ∧ fi f < 600 ∧ sa (fi f) ≠ -1 ∧ ea (fi f) ≠ -1) ∧
  (∀ f : Int, 1 ≤ f → f + 1 < fr → sa (fi f) < sa (fi (f + 1)) ∧ ea (fi (f + 1)) < ea (fi f)) ∧
  (1 < fr → sa (fi (fr - 1)) < cu ∧ cu ≤ ea (fi (fr - 1))) ∧
  (∀ t : Int, 0 ≤ t → t < oo → 0 ≤ op t ∧ op t < 600 ∧ sa (op t) ≠ -1 ∧ ea (op t) = -1 ∧ sa (op t) < cu) ∧
  (∀ t t' : Int, 0 ≤ t → t < t' → t' < oo → sa (op t) < sa (op t')) ∧
  (∀ f t : Int, 0 ≤ f → f < fr → fo f ≤ t → 0 ≤ t → t < oo → (f + 1 < fr → t < fo (f + 1)) → ∀ b : Int, 0 ≤ b → b < 600 → sa b ≠ -1 → ea b ≠ -1 → (sa (op t) < sa b → sa b < cl_ ea cu fi fr f → ea b < cl_ ea cu fi fr f) ∧ (sa b < sa (op t) → ea b < cl_ ea cu fi fr f → ea b < sa (op t)))
/-- places are moved, in their order -/
def mv_ (sa ea : Int → Int) (cu : Int) (r : Int → Int) (sa' ea' : Int → Int) (cu' : Int) : Prop :=
  cu' = r cu ∧
  ∀ j : Int, 0 ≤ j → j < 600 → sa' j ≠ -1 → sa j ≠ -1 ∧ sa' j = r (sa j) ∧ (ea j = -1 → ea' j = -1) ∧ (ea j ≠ -1 → ea' j = r (ea j) ∧ ea' j ≠ -1 ∧ r (ea j + 1) = r (ea j) + 1) ∧
    (∀ q : Int, 0 ≤ q → (sa j < q ↔ r (sa j) < r q)) ∧ (ea j ≠ -1 → ∀ q : Int, 0 ≤ q → (ea j < q ↔ r (ea j) < r q))
theorem nv_move {sa ea sa' ea' r fi fo op : Int → Int} {cu cu' fr oo : Int} (h : nv_ sa ea cu fi fo fr op oo) (hm : mv_ sa ea cu r sa' ea' cu') (h0 : ∀ j : Int, 0 ≤ j → j < 600 → sa j ≠ -1 → 0 ≤ sa j ∧ (ea j ≠ -1 → 0 ≤ ea j)) (hc : 0 ≤ cu)
    (hf : ∀ f : Int, 1 ≤ f → f < fr → sa' (fi f) ≠ -1) (ho : ∀ t : Int, 0 ≤ t → t < oo → sa' (op t) ≠ -1) : nv_ sa' ea' cu' fi fo fr op oo := by
  obtain ⟨n1, n2, n3, n4, n5, n6, n7⟩ := h
  obtain ⟨m1, m2⟩ := hm
  subst m1
  refine ⟨fun a b a0 a1 b0 b1 sa1 sb1 ea1 eb1 x y => ?_, fun f f0 f1 => ?_, fun f f0 f1 => ?_, fun f1 => ?_, fun t t0 t1 => ?_, fun t t' t0 t1 t2 => ?_, fun f t f0 f1 t0 t1 t2 t3 b b0 b1 sb eb => ?_⟩
  · obtain ⟨p1, p2, p3, p4, p5, p6⟩ := m2 a a0 a1 sa1
    obtain ⟨q1, q2, q3, q4, q5, q6⟩ := m2 b b0 b1 sb1
    have ha : ea a ≠ -1 := fun z => ea1 (p3 z)
    have hb : ea b ≠ -1 := fun z => eb1 (q3 z)
    have e1 := (p4 ha).1
    have e2 := (q4 hb).1
    have z1 := h0 a a0 a1 p1
    have z2 := h0 b b0 b1 q1
    have x1 := (p5 (sa b) z2.1).mpr (by omega)
    have x2 := (q5 (ea a) (z1.2 ha)).mpr (by omega)
    have x3 := n1 a b a0 a1 b0 b1 p1 q1 ha hb x1 x2
    have x4 := (q6 hb (ea a) (z1.2 ha)).mp x3
    omega
  · obtain ⟨p1, p2, p3, p4⟩ := n2 f f0 f1
    obtain ⟨q1, q2, q3, q4, q5, q6⟩ := m2 (fi f) p1 p2 (hf f f0 f1)
    exact ⟨p1, p2, hf f f0 f1, (q4 p4).2.1⟩
  · obtain ⟨p1, p2, p3, p4⟩ := n2 f f0 (by omega)
    obtain ⟨q1, q2, q3, q4⟩ := n2 (f + 1) (by omega) f1
    obtain ⟨u1, u2, u3, u4, u5, u6⟩ := m2 (fi f) p1 p2 (hf f f0 (by omega))
    obtain ⟨v1, v2, v3, v4, v5, v6⟩ := m2 (fi (f + 1)) q1 q2 (hf (f + 1) (by omega) f1)
    have w := n3 f f0 f1
    have z1 := h0 (fi f) p1 p2 p3
    have z2 := h0 (fi (f + 1)) q1 q2 q3
    have x1 := (u5 (sa (fi (f + 1))) z2.1).mp w.1
    have x2 := (v6 q4 (ea (fi f)) (z1.2 p4)).mp w.2
    have e1 := (u4 p4).1
    have e2 := (v4 q4).1
    omega
  · have w := n4 f1
    obtain ⟨p1, p2, p3, p4⟩ := n2 (fr - 1) (by omega) (by omega)
    obtain ⟨u1, u2, u3, u4, u5, u6⟩ := m2 (fi (fr - 1)) p1 p2 (hf (fr - 1) (by omega) (by omega))
    have x1 := (u5 cu hc).mp w.1
    have e1 := (u4 p4).1
    refine ⟨by omega, ?_⟩
    apply Int.not_lt.mp
    intro z
    have := (u6 p4 cu hc).mpr (by omega)
    omega
  · obtain ⟨p1, p2, p3, p4, p5⟩ := n5 t t0 t1
    obtain ⟨u1, u2, u3, u4, u5, u6⟩ := m2 (op t) p1 p2 (ho t t0 t1)
    have x1 := (u5 cu hc).mp p5
    exact ⟨p1, p2, ho t t0 t1, u3 p4, by omega⟩
  · obtain ⟨p1, p2, p3, p4, p5⟩ := n5 t t0 (by omega)
    obtain ⟨u1, u2, u3, u4, u5, u6⟩ := m2 (op t) p1 p2 (ho t t0 (by omega))
    obtain ⟨q1, q2, q3, q4, q5⟩ := n5 t' (by omega) t2
    obtain ⟨v1, v2, v3, v4, v5, v6⟩ := m2 (op t') q1 q2 (ho t' (by omega) t2)
    have x1 := (u5 (sa (op t')) (h0 _ q1 q2 q3).1).mp (n6 t t' t0 t1 t2)
    omega
  · obtain ⟨p1, p2, p3, p4, p5⟩ := n5 t t1 t2
    obtain ⟨u1, u2, u3, u4, u5, u6⟩ := m2 (op t) p1 p2 (ho t t1 t2)
    obtain ⟨v1, v2, v3, v4, v5, v6⟩ := m2 b b0 b1 sb
    have hb : ea b ≠ -1 := fun z => eb (v3 z)
    have w := n7 f t f0 f1 t0 t1 t2 t3 b b0 b1 v1 hb
    have z2 := h0 b b0 b1 v1
    have z1 := h0 (op t) p1 p2 p3
    have hcl : cl_ ea' (r cu) fi fr f = r (cl_ ea cu fi fr f) ∧ 0 ≤ cl_ ea cu fi fr f := by
      unfold cl_
      by_cases hq : f + 1 < fr
      · rw [if_pos hq, if_pos hq]
        obtain ⟨q1, q2, q3, q4⟩ := n2 (f + 1) (by omega) hq
        obtain ⟨y1, y2, y3, y4, y5, y6⟩ := m2 (fi (f + 1)) q1 q2 (hf (f + 1) (by omega) hq)
        have := (h0 _ q1 q2 q3).2 q4
        have := y4 q4
        omega
      · rw [if_neg hq, if_neg hq]
        exact ⟨rfl, hc⟩
    rw [hcl.1]
    have e1 := (v4 hb).1
    refine ⟨fun x y => ?_, fun x y => ?_⟩
    · have a1 := (u5 (sa b) z2.1).mpr (by omega)
      have a2 := (v5 _ hcl.2).mpr (by omega)
      have a3 := (v6 hb _ hcl.2).mp (w.1 a1 a2)
      omega
    · have a1 := (v5 (sa (op t)) z1.1).mpr (by omega)
      have a2 := (v6 hb _ hcl.2).mpr (by omega)
      have a3 := (v6 hb (sa (op t)) z1.1).mp (w.2 a1 a2)
      omega
/-- a frame goes: none is open in it -/
theorem nv_pop {sa ea fi fo op : Int → Int} {cu fr oo : Int} (h : nv_ sa ea cu fi fo fr op oo) (h1 : 1 < fr) (hoo : oo ≤ fo (fr - 1)) : nv_ sa ea (ea (fi (fr - 1)) + 1) fi fo (fr - 1) op oo := by
  obtain ⟨n1, n2, n3, n4, n5, n6, n7⟩ := h
  have w := n4 h1
  refine ⟨n1, fun f f0 f1 => n2 f f0 (by omega), fun f f0 f1 => n3 f f0 (by omega), fun f1 => ?_, fun t t0 t1 => ?_, n6, fun f t f0 f1 t0 t1 t2 t3 b b0 b1 sb eb => ?_⟩
  · have := n3 (fr - 1 - 1) (by omega) (by omega)
    rw [show fr - 1 - 1 + 1 = fr - 1 by omega] at this
    omega
  · have := n5 t t0 t1
    exact ⟨this.1, this.2.1, this.2.2.1, this.2.2.2.1, by omega⟩
  · have hcl : cl_ ea (ea (fi (fr - 1)) + 1) fi (fr - 1) f = cl_ ea cu fi fr f := by
      unfold cl_
      by_cases hq : f + 1 < fr - 1
      · rw [if_pos hq, if_pos (by omega)]
      · rw [if_neg hq, if_pos (by omega), show f + 1 = fr - 1 by omega]
    rw [hcl]
    refine n7 f t f0 (by omega) t0 t1 t2 (fun q => ?_) b b0 b1 sb eb
    by_cases hq : f + 1 < fr - 1
    · exact t3 hq
    · rw [show f + 1 = fr - 1 by omega]; omega
/-- with one frame and none open the cursor may go anywhere -/
theorem nv_free {sa ea fi fo op : Int → Int} {cu fr oo : Int} (h : nv_ sa ea cu fi fo fr op oo) (h1 : fr ≤ 1) (hoo : oo ≤ 0) (c : Int) : nv_ sa ea c fi fo fr op oo := by
  obtain ⟨n1, n2, n3, n4, n5, n6, n7⟩ := h
  exact ⟨n1, n2, n3, fun f1 => by omega, fun t t0 t1 => by omega, fun t t' t0 t1 t2 => by omega, fun f t f0 f1 t0 t1 t2 => by omega⟩
/-- a frame is put upon the others, for the interval i -/
theorem nv_push {sa ea ln fi fo op : Int → Int} {ev cu fr oo i : Int} (hw : pw_ sa ea ln ev) (h : nv_ sa ea cu fi fo fr op oo) (hfr : 1 ≤ fr) (hfo : 1 < fr → fo (fr - 1) ≤ oo) (i0 : 0 ≤ i) (i1 : i < 600) (hs : sa i ≠ -1) (he : ea i ≠ -1) (hc : cu ≤ sa i) (hl : 1 < fr → sa i < ea (fi (fr - 1)))
    (hno : fo (fr - 1) < oo → sa i = cu) {fi' fo' : Int → Int} (hfi : ∀ f : Int, f < fr → fi' f = fi f ∧ fo' f = fo f) (hfi2 : fi' fr = i) (hfo2 : fo' fr = oo) (hc0 : 0 ≤ cu) : nv_ sa ea (sa i + 1) fi' fo' (fr + 1) op oo := by
  obtain ⟨w1, w2, w3, w4⟩ := hw
  obtain ⟨n1, n2, n3, n4, n5, n6, n7⟩ := h
  have se : sa i < ea i := by
    have a1 := w2 i i0 i1
    have a2 := w3 i i0 i1 hs
    omega
  refine ⟨n1, fun f f0 f1 => ?_, fun f f0 f1 => ?_, fun f1 => ?_, fun t t0 t1 => ?_, n6, fun f t f0 f1 t0 t1 t2 t3 b b0 b1 sb eb => ?_⟩
  · by_cases hq : f = fr
    · rw [hq, hfi2]; exact ⟨i0, i1, hs, he⟩
    · rw [(hfi f (by omega)).1]; exact n2 f f0 (by omega)
  · by_cases hq : f + 1 = fr
    · rw [hq, hfi2, (hfi f (by omega)).1, show f = fr - 1 by omega]
      have a1 := n4 (by omega)
      have a2 := hl (by omega)
      obtain ⟨p1, p2, p3, p4⟩ := n2 (fr - 1) (by omega) (by omega)
      have a3 := n1 (fi (fr - 1)) i p1 p2 i0 i1 p3 hs p4 he (by omega) a2
      omega
    · rw [(hfi f (by omega)).1, (hfi (f + 1) (by omega)).1]; exact n3 f f0 (by omega)
  · rw [show fr + 1 - 1 = fr by omega, hfi2]; omega
  · have := n5 t t0 t1
    exact ⟨this.1, this.2.1, this.2.2.1, this.2.2.2.1, by omega⟩
  · by_cases hq : f = fr
    · rw [hq, hfo2] at t0; omega
    rw [(hfi f (by omega)).2] at t0
    by_cases hq2 : f + 1 = fr
    · have hf9 : f = fr - 1 := by omega
      rw [hf9] at t0
      have hsc : sa i = cu := hno (by omega)
      have hcl : cl_ ea (sa i + 1) fi' (fr + 1) f = ea i + 1 := by
        unfold cl_
        rw [if_pos (by omega), hq2, hfi2]
      have w := n7 f t f0 (by omega) (by rw [hf9]; exact t0) t1 t2 (by omega) b b0 b1 sb eb
      have hcl2 : cl_ ea cu fi fr f = cu := by
        unfold cl_
        rw [if_neg (by omega)]
      rw [hcl2] at w
      rw [hcl]
      have p := n5 t t1 t2
      have a1 := w2 b b0 b1
      have a2 := w3 b b0 b1 sb
      have a3 := w2 i i0 i1
      have a4 := w3 i i0 i1 hs
      refine ⟨fun x y => ?_, fun x y => ?_⟩
      · by_cases z1 : sa b < cu
        · have := w.1 x z1
          omega
        · by_cases z2 : sa b = sa i
          · have e1 : ln (sa b) = 2 * b := by omega
            have e2 : ln (sa i) = 2 * i := by omega
            rw [z2, e2] at e1
            have : b = i := by omega
            rw [this]; omega
          · have z3 : sa b ≠ ea i := fun z => by
              have e1 : ln (sa b) = 2 * b := by omega
              have e2 : ln (ea i) = 2 * i + 1 := by omega
              rw [z, e2] at e1
              omega
            have := n1 i b i0 i1 b0 b1 hs sb he eb (by omega) (by omega)
            omega
      · by_cases z1 : ea b < cu
        · exact w.2 x z1
        · have z2 : ea b ≠ sa i := fun z => by
            have e1 : ln (ea b) = 2 * b + 1 := by omega
            have e2 : ln (sa i) = 2 * i := by omega
            rw [z, e2] at e1
            omega
          by_cases z3 : ea b = ea i
          · have e1 : ln (ea b) = 2 * b + 1 := by omega
            have e2 : ln (ea i) = 2 * i + 1 := by omega
            rw [z3, e2] at e1
            have : b = i := by omega
            rw [this] at x; omega
          · have := n1 b i b0 b1 i0 i1 sb hs eb he (by omega) (by omega)
            omega
    · have hcl : cl_ ea (sa i + 1) fi' (fr + 1) f = cl_ ea cu fi fr f := by
        unfold cl_
        rw [if_pos (by omega), if_pos (by omega), (hfi (f + 1) (by omega)).1]
      rw [hcl]
      refine n7 f t f0 (by omega) t0 t1 t2 (fun q => ?_) b b0 b1 sb eb
      have := t3 (by omega)
      rw [(hfi (f + 1) (by omega)).2] at this
      exact this
/-- a new interval i begins at the place ahead of the cursor -/
theorem nv_begin {sa ea fi fo op : Int → Int} {cu fr oo i : Int} (h : nv_ sa ea (cu + 1) fi fo fr op oo) (hgap : ∀ j : Int, 0 ≤ j → j < 600 → sa j ≠ -1 → sa j ≠ cu ∧ ea j ≠ cu) (i0 : 0 ≤ i) (i1 : i < 600) (hi : sa i = -1) (hfr : 1 ≤ fr) (hc0 : 0 ≤ cu) (hoo : 0 ≤ oo) (hf1 : ∀ f : Int, 0 ≤ f → f + 1 < fr → fo (f + 1) ≤ oo)
    {sa' ea' op' : Int → Int} (hsa : ∀ j : Int, 0 ≤ j → j < 600 → j ≠ i → sa' j = sa j ∧ ea' j = ea j) (hsi : sa' i = cu) (hei : ea' i = -1) (hop : ∀ t : Int, t < oo → op' t = op t) (hop2 : op' oo = i) : nv_ sa' ea' (cu + 1) fi fo fr op' (oo + 1) := by
  obtain ⟨n1, n2, n3, n4, n5, n6, n7⟩ := h
  have ne_f : ∀ f : Int, 1 ≤ f → f < fr → fi f ≠ i := fun f f0 f1 z => by
    have := n2 f f0 f1
    rw [z] at this
    exact this.2.2.1 hi
  have ne_o : ∀ t : Int, 0 ≤ t → t < oo → op t ≠ i := fun t t0 t1 z => by
    have := n5 t t0 t1
    rw [z] at this
    exact this.2.2.1 hi
  have sf : ∀ f : Int, 1 ≤ f → f < fr → sa' (fi f) = sa (fi f) ∧ ea' (fi f) = ea (fi f) := fun f f0 f1 => by
    have p := n2 f f0 f1
    exact hsa (fi f) p.1 p.2.1 (ne_f f f0 f1)
  have so : ∀ t : Int, 0 ≤ t → t < oo → sa' (op t) = sa (op t) ∧ ea' (op t) = ea (op t) := fun t t0 t1 => by
    have p := n5 t t0 t1
    exact hsa (op t) p.1 p.2.1 (ne_o t t0 t1)
  have hcl : ∀ f : Int, 0 ≤ f → f < fr → cl_ ea' (cu + 1) fi fr f = cl_ ea (cu + 1) fi fr f := fun f f0 f1 => by
    unfold cl_
    by_cases hq : f + 1 < fr
    · rw [if_pos hq, if_pos hq, (sf (f + 1) (by omega) hq).2]
    · rw [if_neg hq, if_neg hq]
  refine ⟨fun a b a0 a1 b0 b1 s1 s2 e1 e2 x y => ?_, fun f f0 f1 => ?_, fun f f0 f1 => ?_, fun f1 => ?_, fun t t0 t1 => ?_, fun t t' t0 t1 t2 => ?_, fun f t f0 f1 t0 t1 t2 t3 b b0 b1 sb eb => ?_⟩
  · have ha : a ≠ i := fun z => by rw [z] at e1; exact e1 hei
    have hb : b ≠ i := fun z => by rw [z] at e2; exact e2 hei
    rw [(hsa a a0 a1 ha).1] at s1 x
    rw [(hsa a a0 a1 ha).2] at e1 y
    rw [(hsa b b0 b1 hb).1] at s2 x y
    rw [(hsa b b0 b1 hb).2] at e2
    rw [(hsa b b0 b1 hb).2, (hsa a a0 a1 ha).2]
    exact n1 a b a0 a1 b0 b1 s1 s2 e1 e2 x y
  · rw [(sf f f0 f1).1, (sf f f0 f1).2]; exact n2 f f0 f1
  · rw [(sf f f0 (by omega)).1, (sf f f0 (by omega)).2, (sf (f + 1) (by omega) f1).1, (sf (f + 1) (by omega) f1).2]; exact n3 f f0 f1
  · rw [(sf (fr - 1) (by omega) (by omega)).1, (sf (fr - 1) (by omega) (by omega)).2]; exact n4 f1
  · by_cases hq : t = oo
    · rw [hq, hop2]; exact ⟨i0, i1, by omega, hei, by omega⟩
    · rw [hop t (by omega), (so t t0 (by omega)).1, (so t t0 (by omega)).2]; exact n5 t t0 (by omega)
  · rw [hop t (by omega), (so t t0 (by omega)).1]
    by_cases hq : t' = oo
    · have p := n5 t t0 (by omega)
      have g := hgap (op t) p.1 p.2.1 p.2.2.1
      rw [hq, hop2, hsi]; omega
    · rw [hop t' (by omega), (so t' (by omega) (by omega)).1]; exact n6 t t' t0 t1 (by omega)
  · have hb : b ≠ i := fun z => by rw [z] at eb; exact eb hei
    rw [(hsa b b0 b1 hb).1] at sb
    rw [(hsa b b0 b1 hb).2] at eb
    rw [hcl f f0 f1, (hsa b b0 b1 hb).1, (hsa b b0 b1 hb).2]
    by_cases hq : t = oo
    · have hq2 : ¬ f + 1 < fr := fun z => by
        have a1 := t3 z
        have a2 := hf1 f f0 z
        omega
      have hc : cl_ ea (cu + 1) fi fr f = cu + 1 := by unfold cl_; rw [if_neg hq2]
      have g := hgap b b0 b1 sb
      rw [hc, hq, hop2, hsi]
      exact ⟨fun x y => by omega, fun x y => by omega⟩
    · rw [hop t (by omega), (so t t1 (by omega)).1]
      exact n7 f t f0 f1 t0 t1 (by omega) t3 b b0 b1 sb eb
/-- the last open interval ends at the place ahead of the cursor -/
theorem nv_end {sa ea fi fo op : Int → Int} {cu fr oo i : Int} (h : nv_ sa ea (cu + 1) fi fo fr op oo) (hgap : ∀ j : Int, 0 ≤ j → j < 600 → sa j ≠ -1 → sa j ≠ cu ∧ ea j ≠ cu) (hfr : 1 ≤ fr) (hc0 : 0 ≤ cu) (hoo : fo (fr - 1) < oo) (h1 : 0 < oo) (hi : op (oo - 1) = i) (hf0 : ∀ f : Int, 0 ≤ f → f < fr → 0 ≤ fo f ∧ fo f ≤ fo (fr - 1))
    {ea' : Int → Int} (hea : ∀ j : Int, 0 ≤ j → j < 600 → j ≠ i → ea' j = ea j) (hei : ea' i = cu) : nv_ sa ea' (cu + 1) fi fo fr op (oo - 1) := by
  obtain ⟨n1, n2, n3, n4, n5, n6, n7⟩ := h
  obtain ⟨i0, i1, i2, i3, i4⟩ := n5 (oo - 1) (by omega) (by omega)
  rw [hi] at i0 i1 i2 i3 i4
  have J := n7 (fr - 1) (oo - 1) (by omega) (by omega) (by omega) (by omega) (by omega) (by omega)
  have hclast : ∀ e9 : Int → Int, cl_ e9 (cu + 1) fi fr (fr - 1) = cu + 1 := fun e9 => by unfold cl_; rw [if_neg (by omega)]
  rw [hclast, hi] at J
  have sf : ∀ f : Int, 1 ≤ f → f < fr → ea' (fi f) = ea (fi f) := fun f f0 f1 => by
    have p := n2 f f0 f1
    exact hea (fi f) p.1 p.2.1 (fun z => by rw [z] at p; exact p.2.2.2 i3)
  have so : ∀ t : Int, 0 ≤ t → t < oo - 1 → ea' (op t) = ea (op t) ∧ sa (op t) < sa i := fun t t0 t1 => by
    have p := n5 t t0 (by omega)
    have q := n6 t (oo - 1) t0 t1 (by omega)
    rw [hi] at q
    exact ⟨hea (op t) p.1 p.2.1 (fun z => by rw [z] at q; omega), q⟩
  have hcl : ∀ f : Int, 0 ≤ f → f < fr → cl_ ea' (cu + 1) fi fr f = cl_ ea (cu + 1) fi fr f := fun f f0 f1 => by
    unfold cl_
    by_cases hq : f + 1 < fr
    · rw [if_pos hq, if_pos hq, sf (f + 1) (by omega) hq]
    · rw [if_neg hq, if_neg hq]
  refine ⟨fun a b a0 a1 b0 b1 s1 s2 e1 e2 x y => ?_, fun f f0 f1 => ?_, fun f f0 f1 => ?_, fun f1 => ?_, fun t t0 t1 => ?_, fun t t' t0 t1 t2 => n6 t t' t0 t1 (by omega), fun f t f0 f1 t0 t1 t2 t3 b b0 b1 sb eb => ?_⟩
  · by_cases ha : a = i
    · have hb : b ≠ i := fun z => by rw [ha, z] at x; omega
      rw [ha] at x y
      rw [hei] at y
      rw [hea b b0 b1 hb] at e2 ⊢
      rw [ha, hei]
      have g := hgap b b0 b1 s2
      have := (J b b0 b1 s2 e2).1 x (by omega)
      omega
    · rw [hea a a0 a1 ha] at e1 y ⊢
      by_cases hb : b = i
      · rw [hb] at x y ⊢
        rw [hei]
        have g := hgap a a0 a1 s1
        apply Int.not_le.mp
        intro z
        have := (J a a0 a1 s1 e1).2 x (by omega)
        omega
      · rw [hea b b0 b1 hb] at e2 ⊢
        exact n1 a b a0 a1 b0 b1 s1 s2 e1 e2 x y
  · rw [sf f f0 f1]; exact n2 f f0 f1
  · rw [sf f f0 (by omega), sf (f + 1) (by omega) f1]; exact n3 f f0 f1
  · rw [sf (fr - 1) (by omega) (by omega)]; exact n4 f1
  · rw [(so t t0 t1).1]; exact n5 t t0 (by omega)
  · rw [hcl f f0 f1]
    have q := (so t t1 t2).2
    by_cases hb : b = i
    · subst hb
      rw [hei]
      have hcc : cu < cl_ ea (cu + 1) fi fr f := by
        unfold cl_
        by_cases hq : f + 1 < fr
        · rw [if_pos hq]
          have a1 := n4 (by omega)
          have a2 : ea (fi (fr - 1)) ≤ ea (fi (f + 1)) := by
            have key : ∀ (k : Nat) (g : Int), 1 ≤ g → g < fr → g = fr - 1 - k → ea (fi (fr - 1)) ≤ ea (fi g) := by
              intro k
              induction k with
              | zero => intro g g0 g1 g2; rw [show g = fr - 1 by omega]; omega
              | succ k ih =>
                intro g g0 g1 g2
                have b1 := ih (g + 1) (by omega) (by omega) (by omega)
                have b2 := n3 g g0 (by omega)
                omega
            exact key (fr - 1 - (f + 1)).toNat (f + 1) (by omega) hq (by omega)
          omega
        · rw [if_neg hq]; omega
      exact ⟨fun x y => hcc, fun x y => by omega⟩
    · rw [hea b b0 b1 hb] at eb ⊢
      exact n7 f t f0 f1 t0 t1 (by omega) t3 b b0 b1 sb eb
end
section
abbrev SX_ : Type := (Int → Int) × (Int → Int) × (Int → Int) × (Int → Int) × (Int → Int) × (Int → Int) × (Int → Int) × (Int → Int) × (Int → Int) × (Int → Int) × Int × Int × Int × Int × Int × Int × Int
def fX_ (q : Nat → Nat) : SX_ → List Value := fun x => match x with
  | (ky, wt, sa, ea, sm, ln, fi, fk, fo, op, ni, ns, ev, cu, wa, fr, oo) => [.ref (q 1), .ref (q 2), .ref (q 3), .ref (q 4), .ref (q 5), .int (zi_ ni), .int (zi_ ns), .ref (q 6), .int (zi_ ev), .int (zi_ cu), .int (zi_ wa), .ref (q 7), .ref (q 8), .ref (q 9), .int (zi_ fr), .ref (q 10), .int (zi_ oo)]
def aX_ (q : Nat → Nat) (cA : Nat → ClassId) : SX_ → va_W := fun x => match x with
  | (ky, wt, sa, ea, sm, ln, fi, fk, fo, op, ni, ns, ev, cu, wa, fr, oo) => [(q 1, .inl (cA 1, 600, .inl (zf_ ky))), (q 2, .inl (cA 2, 600, .inl (zf_ wt))), (q 3, .inl (cA 3, 600, .inl (zf_ sa))), (q 4, .inl (cA 4, 600, .inl (zf_ ea))), (q 5, .inl (cA 5, 600, .inl (zf_ sm))), (q 6, .inl (cA 6, 1200, .inl (zf_ ln))), (q 7, .inl (cA 7, 64, .inl (zf_ fi))), (q 8, .inl (cA 8, 64, .inl (zf_ fk))), (q 9, .inl (cA 9, 64, .inl (zf_ fo))), (q 10, .inl (cA 10, 600, .inl (zf_ op)))]
def wX_ (q : Nat → Nat) (cA : Nat → ClassId) (x : SX_) : va_W := (q 0, .inr (0, fX_ q x)) :: aX_ q cA x
abbrev tX_ (cA : Nat → ClassId) : List (ClassId × FieldType) := [(cA 1, .int), (cA 2, .int), (cA 3, .int), (cA 4, .int), (cA 5, .boolean), (cA 6, .int), (cA 7, .int), (cA 8, .int), (cA 9, .int), (cA 10, .int)]
section XV
variable {p : Program} {l : Launch} {e : Env} {R : Room} {s : State} {m : MethodId} {args : Array Value} {below : List Frame} {meth : Method} {c : Code} {H : Heap} {locs : List Loc} {cells slots : Nat} {Q : State → Prop}
variable {cc : ByteArray} {pc index : Nat} {ls : Array Slot} {rest : List Value} {dC : Nat → ClassId} {dI : Nat → Nat → Nat} {A : Nat → Prop} {H0 : Heap} {q : Nat → Nat} {cA : Nat → ClassId} {x x' : SX_} {Ts : List Cond} {v : Value} {z : Int}
theorem gX_ (hE : ze_ p c cc) (hX : ∀ w ∈ wsX_, w.before args s = true) (hown : s.vm.findClass RX0 = some m.cls) (hK : va_K (dC, dI) vwCl (tX_ cA) s) (hh : hp_ (dC, dI) vwCl A H0 (wX_ q cA x) H locs) (k : Nat) (hk : k < 17) (hr : (TX0 k).1 = RX0) (hlink : Cond.fieldLink RX0 index RX0 (TX0 k).2.1 (TX0 k).2.2.1 ∈ wsX_) (hv : (fX_ q x)[k]? = some v) (hdg : decode cc pc = .ok (.getfield index, 3)) (kk : W p l e R s m args below meth c H locs cells slots Q (F0 m (pc + 3) ls (v :: rest))) : W p l e R s m args below meth c H locs cells slots Q (F0 m pc ls (.ref (q 0) :: rest)) := ob_get (C := RX0) (T := TX0) (N := 17) (ci := 0) hE hX inwX_ hown hK hh 0 rfl rfl k hk hr hlink hv hdg kk
theorem pX_ (hE : ze_ p c cc) (hX : ∀ w ∈ wsX_, w.before args s = true) (hown : s.vm.findClass RX0 = some m.cls) (hK : va_K (dC, dI) vwCl (tX_ cA) s) (hh : hp_ (dC, dI) vwCl A H0 (wX_ q cA x) H locs) (k : Nat) (hk : k < 17) (hr : (TX0 k).1 = RX0) (hlink : Cond.fieldLink RX0 index RX0 (TX0 k).2.1 (TX0 k).2.2.1 ∈ wsX_) (hfin : (TX0 k).2.2.2 = false) (hd : parseFieldDescriptor (TX0 k).2.2.1 = some .int) (hl : k < (fX_ q x).length) (hdg : decode cc pc = .ok (.putfield index, 3)) (hw : (wX_ q cA x).set 0 (q 0, .inr (0, (fX_ q x).set k (.int (zi_ z)))) = wX_ q cA x') (kk : ∀ (H : Heap) (locs : List Loc), hp_ (dC, dI) vwCl A H0 (wX_ q cA x') H locs → W p l e R s m args below meth c H locs cells slots Q (F0 m (pc + 3) ls rest)) : W p l e R s m args below meth c H locs cells slots Q (F0 m pc ls (.int (zi_ z) :: .ref (q 0) :: rest)) := ob_put (C := RX0) (T := TX0) (N := 17) (ci := 0) hE hX inwX_ tyX0_ok nmX0 hown hK hh 0 rfl rfl k hk hr hlink hfin hd hl hdg hw kk
theorem gX_keys {ky wt sa ea sm ln fi fk fo op : Int → Int} {ni ns ev cu wa fr oo : Int} (hE : ze_ p c cc) (hX : ∀ w ∈ wsX_, w.before args s = true) (hown : s.vm.findClass RX0 = some m.cls) (hK : va_K (dC, dI) vwCl (tX_ cA) s) (hh : hp_ (dC, dI) vwCl A H0 (wX_ q cA (ky, wt, sa, ea, sm, ln, fi, fk, fo, op, ni, ns, ev, cu, wa, fr, oo)) H locs) (hdg : decode cc pc = .ok (.getfield 9, 3)) (kk : W p l e R s m args below meth c H locs cells slots Q (F0 m (pc + 3) ls (.ref (q 1) :: rest))) : W p l e R s m args below meth c H locs cells slots Q (F0 m pc ls (.ref (q 0) :: rest)) := gX_ hE hX hown hK hh 0 (by decide) rfl mX_fl_9 rfl hdg kk
theorem rX_keys {ky wt sa ea sm ln fi fk fo op : Int → Int} {ni ns ev cu wa fr oo : Int} (hE : ze_ p c cc) (hK : va_K (dC, dI) vwCl (tX_ cA) s) (hh : hp_ (dC, dI) vwCl A H0 (wX_ q cA (ky, wt, sa, ea, sm, ln, fi, fk, fo, op, ni, ns, ev, cu, wa, fr, oo)) H locs) (hz : 0 ≤ z ∧ z < 600) (hdg : decode cc pc = .ok (.iaload, 1)) (kk : W p l e R s m args below meth c H locs cells slots Q (F0 m (pc + 1) ls (.int (zi_ (ky z)) :: rest))) : W p l e R s m args below meth c H locs cells slots Q (F0 m pc ls (.int (zi_ z) :: .ref (q 1) :: rest)) := zv_iald hE hK hh 1 0 rfl rfl (by decide) hz hdg kk
theorem sX_keys {ky wt sa ea sm ln fi fk fo op : Int → Int} {ni ns ev cu wa fr oo : Int} {y : Int} (hE : ze_ p c cc) (hK : va_K (dC, dI) vwCl (tX_ cA) s) (hh : hp_ (dC, dI) vwCl A H0 (wX_ q cA (ky, wt, sa, ea, sm, ln, fi, fk, fo, op, ni, ns, ev, cu, wa, fr, oo)) H locs) (hz : 0 ≤ z ∧ z < 600) (hdg : decode cc pc = .ok (.iastore, 1)) (kk : ∀ (H : Heap) (locs : List Loc), hp_ (dC, dI) vwCl A H0 (wX_ q cA (up_ ky z y, wt, sa, ea, sm, ln, fi, fk, fo, op, ni, ns, ev, cu, wa, fr, oo)) H locs → W p l e R s m args below meth c H locs cells slots Q (F0 m (pc + 1) ls rest)) : W p l e R s m args below meth c H locs cells slots Q (F0 m pc ls (.int (zi_ y) :: .int (zi_ z) :: .ref (q 1) :: rest)) := zv_iast (ws' := wX_ q cA (up_ ky z y, wt, sa, ea, sm, ln, fi, fk, fo, op, ni, ns, ev, cu, wa, fr, oo)) hE hK hh 1 0 rfl rfl (by decide) hz hdg rfl kk
theorem gX_weights {ky wt sa ea sm ln fi fk fo op : Int → Int} {ni ns ev cu wa fr oo : Int} (hE : ze_ p c cc) (hX : ∀ w ∈ wsX_, w.before args s = true) (hown : s.vm.findClass RX0 = some m.cls) (hK : va_K (dC, dI) vwCl (tX_ cA) s) (hh : hp_ (dC, dI) vwCl A H0 (wX_ q cA (ky, wt, sa, ea, sm, ln, fi, fk, fo, op, ni, ns, ev, cu, wa, fr, oo)) H locs) (hdg : decode cc pc = .ok (.getfield 13, 3)) (kk : W p l e R s m args below meth c H locs cells slots Q (F0 m (pc + 3) ls (.ref (q 2) :: rest))) : W p l e R s m args below meth c H locs cells slots Q (F0 m pc ls (.ref (q 0) :: rest)) := gX_ hE hX hown hK hh 1 (by decide) rfl mX_fl_13 rfl hdg kk
theorem rX_weights {ky wt sa ea sm ln fi fk fo op : Int → Int} {ni ns ev cu wa fr oo : Int} (hE : ze_ p c cc) (hK : va_K (dC, dI) vwCl (tX_ cA) s) (hh : hp_ (dC, dI) vwCl A H0 (wX_ q cA (ky, wt, sa, ea, sm, ln, fi, fk, fo, op, ni, ns, ev, cu, wa, fr, oo)) H locs) (hz : 0 ≤ z ∧ z < 600) (hdg : decode cc pc = .ok (.iaload, 1)) (kk : W p l e R s m args below meth c H locs cells slots Q (F0 m (pc + 1) ls (.int (zi_ (wt z)) :: rest))) : W p l e R s m args below meth c H locs cells slots Q (F0 m pc ls (.int (zi_ z) :: .ref (q 2) :: rest)) := zv_iald hE hK hh 2 1 rfl rfl (by decide) hz hdg kk
theorem sX_weights {ky wt sa ea sm ln fi fk fo op : Int → Int} {ni ns ev cu wa fr oo : Int} {y : Int} (hE : ze_ p c cc) (hK : va_K (dC, dI) vwCl (tX_ cA) s) (hh : hp_ (dC, dI) vwCl A H0 (wX_ q cA (ky, wt, sa, ea, sm, ln, fi, fk, fo, op, ni, ns, ev, cu, wa, fr, oo)) H locs) (hz : 0 ≤ z ∧ z < 600) (hdg : decode cc pc = .ok (.iastore, 1)) (kk : ∀ (H : Heap) (locs : List Loc), hp_ (dC, dI) vwCl A H0 (wX_ q cA (ky, up_ wt z y, sa, ea, sm, ln, fi, fk, fo, op, ni, ns, ev, cu, wa, fr, oo)) H locs → W p l e R s m args below meth c H locs cells slots Q (F0 m (pc + 1) ls rest)) : W p l e R s m args below meth c H locs cells slots Q (F0 m pc ls (.int (zi_ y) :: .int (zi_ z) :: .ref (q 2) :: rest)) := zv_iast (ws' := wX_ q cA (ky, up_ wt z y, sa, ea, sm, ln, fi, fk, fo, op, ni, ns, ev, cu, wa, fr, oo)) hE hK hh 2 1 rfl rfl (by decide) hz hdg rfl kk
theorem gX_startAt {ky wt sa ea sm ln fi fk fo op : Int → Int} {ni ns ev cu wa fr oo : Int} (hE : ze_ p c cc) (hX : ∀ w ∈ wsX_, w.before args s = true) (hown : s.vm.findClass RX0 = some m.cls) (hK : va_K (dC, dI) vwCl (tX_ cA) s) (hh : hp_ (dC, dI) vwCl A H0 (wX_ q cA (ky, wt, sa, ea, sm, ln, fi, fk, fo, op, ni, ns, ev, cu, wa, fr, oo)) H locs) (hdg : decode cc pc = .ok (.getfield 16, 3)) (kk : W p l e R s m args below meth c H locs cells slots Q (F0 m (pc + 3) ls (.ref (q 3) :: rest))) : W p l e R s m args below meth c H locs cells slots Q (F0 m pc ls (.ref (q 0) :: rest)) := gX_ hE hX hown hK hh 2 (by decide) rfl mX_fl_16 rfl hdg kk
theorem rX_startAt {ky wt sa ea sm ln fi fk fo op : Int → Int} {ni ns ev cu wa fr oo : Int} (hE : ze_ p c cc) (hK : va_K (dC, dI) vwCl (tX_ cA) s) (hh : hp_ (dC, dI) vwCl A H0 (wX_ q cA (ky, wt, sa, ea, sm, ln, fi, fk, fo, op, ni, ns, ev, cu, wa, fr, oo)) H locs) (hz : 0 ≤ z ∧ z < 600) (hdg : decode cc pc = .ok (.iaload, 1)) (kk : W p l e R s m args below meth c H locs cells slots Q (F0 m (pc + 1) ls (.int (zi_ (sa z)) :: rest))) : W p l e R s m args below meth c H locs cells slots Q (F0 m pc ls (.int (zi_ z) :: .ref (q 3) :: rest)) := zv_iald hE hK hh 3 2 rfl rfl (by decide) hz hdg kk
theorem sX_startAt {ky wt sa ea sm ln fi fk fo op : Int → Int} {ni ns ev cu wa fr oo : Int} {y : Int} (hE : ze_ p c cc) (hK : va_K (dC, dI) vwCl (tX_ cA) s) (hh : hp_ (dC, dI) vwCl A H0 (wX_ q cA (ky, wt, sa, ea, sm, ln, fi, fk, fo, op, ni, ns, ev, cu, wa, fr, oo)) H locs) (hz : 0 ≤ z ∧ z < 600) (hdg : decode cc pc = .ok (.iastore, 1)) (kk : ∀ (H : Heap) (locs : List Loc), hp_ (dC, dI) vwCl A H0 (wX_ q cA (ky, wt, up_ sa z y, ea, sm, ln, fi, fk, fo, op, ni, ns, ev, cu, wa, fr, oo)) H locs → W p l e R s m args below meth c H locs cells slots Q (F0 m (pc + 1) ls rest)) : W p l e R s m args below meth c H locs cells slots Q (F0 m pc ls (.int (zi_ y) :: .int (zi_ z) :: .ref (q 3) :: rest)) := zv_iast (ws' := wX_ q cA (ky, wt, up_ sa z y, ea, sm, ln, fi, fk, fo, op, ni, ns, ev, cu, wa, fr, oo)) hE hK hh 3 2 rfl rfl (by decide) hz hdg rfl kk
theorem gX_endAt {ky wt sa ea sm ln fi fk fo op : Int → Int} {ni ns ev cu wa fr oo : Int} (hE : ze_ p c cc) (hX : ∀ w ∈ wsX_, w.before args s = true) (hown : s.vm.findClass RX0 = some m.cls) (hK : va_K (dC, dI) vwCl (tX_ cA) s) (hh : hp_ (dC, dI) vwCl A H0 (wX_ q cA (ky, wt, sa, ea, sm, ln, fi, fk, fo, op, ni, ns, ev, cu, wa, fr, oo)) H locs) (hdg : decode cc pc = .ok (.getfield 19, 3)) (kk : W p l e R s m args below meth c H locs cells slots Q (F0 m (pc + 3) ls (.ref (q 4) :: rest))) : W p l e R s m args below meth c H locs cells slots Q (F0 m pc ls (.ref (q 0) :: rest)) := gX_ hE hX hown hK hh 3 (by decide) rfl mX_fl_19 rfl hdg kk
theorem rX_endAt {ky wt sa ea sm ln fi fk fo op : Int → Int} {ni ns ev cu wa fr oo : Int} (hE : ze_ p c cc) (hK : va_K (dC, dI) vwCl (tX_ cA) s) (hh : hp_ (dC, dI) vwCl A H0 (wX_ q cA (ky, wt, sa, ea, sm, ln, fi, fk, fo, op, ni, ns, ev, cu, wa, fr, oo)) H locs) (hz : 0 ≤ z ∧ z < 600) (hdg : decode cc pc = .ok (.iaload, 1)) (kk : W p l e R s m args below meth c H locs cells slots Q (F0 m (pc + 1) ls (.int (zi_ (ea z)) :: rest))) : W p l e R s m args below meth c H locs cells slots Q (F0 m pc ls (.int (zi_ z) :: .ref (q 4) :: rest)) := zv_iald hE hK hh 4 3 rfl rfl (by decide) hz hdg kk
theorem sX_endAt {ky wt sa ea sm ln fi fk fo op : Int → Int} {ni ns ev cu wa fr oo : Int} {y : Int} (hE : ze_ p c cc) (hK : va_K (dC, dI) vwCl (tX_ cA) s) (hh : hp_ (dC, dI) vwCl A H0 (wX_ q cA (ky, wt, sa, ea, sm, ln, fi, fk, fo, op, ni, ns, ev, cu, wa, fr, oo)) H locs) (hz : 0 ≤ z ∧ z < 600) (hdg : decode cc pc = .ok (.iastore, 1)) (kk : ∀ (H : Heap) (locs : List Loc), hp_ (dC, dI) vwCl A H0 (wX_ q cA (ky, wt, sa, up_ ea z y, sm, ln, fi, fk, fo, op, ni, ns, ev, cu, wa, fr, oo)) H locs → W p l e R s m args below meth c H locs cells slots Q (F0 m (pc + 1) ls rest)) : W p l e R s m args below meth c H locs cells slots Q (F0 m pc ls (.int (zi_ y) :: .int (zi_ z) :: .ref (q 4) :: rest)) := zv_iast (ws' := wX_ q cA (ky, wt, sa, up_ ea z y, sm, ln, fi, fk, fo, op, ni, ns, ev, cu, wa, fr, oo)) hE hK hh 4 3 rfl rfl (by decide) hz hdg rfl kk
theorem gX_staleMark {ky wt sa ea sm ln fi fk fo op : Int → Int} {ni ns ev cu wa fr oo : Int} (hE : ze_ p c cc) (hX : ∀ w ∈ wsX_, w.before args s = true) (hown : s.vm.findClass RX0 = some m.cls) (hK : va_K (dC, dI) vwCl (tX_ cA) s) (hh : hp_ (dC, dI) vwCl A H0 (wX_ q cA (ky, wt, sa, ea, sm, ln, fi, fk, fo, op, ni, ns, ev, cu, wa, fr, oo)) H locs) (hdg : decode cc pc = .ok (.getfield 22, 3)) (kk : W p l e R s m args below meth c H locs cells slots Q (F0 m (pc + 3) ls (.ref (q 5) :: rest))) : W p l e R s m args below meth c H locs cells slots Q (F0 m pc ls (.ref (q 0) :: rest)) := gX_ hE hX hown hK hh 4 (by decide) rfl mX_fl_22 rfl hdg kk
theorem rX_staleMark {ky wt sa ea sm ln fi fk fo op : Int → Int} {ni ns ev cu wa fr oo : Int} (hE : ze_ p c cc) (hK : va_K (dC, dI) vwCl (tX_ cA) s) (hh : hp_ (dC, dI) vwCl A H0 (wX_ q cA (ky, wt, sa, ea, sm, ln, fi, fk, fo, op, ni, ns, ev, cu, wa, fr, oo)) H locs) (hz : 0 ≤ z ∧ z < 600) (hdg : decode cc pc = .ok (.baload, 1)) (kk : W p l e R s m args below meth c H locs cells slots Q (F0 m (pc + 1) ls (.int (zi_ (sm z)) :: rest))) : W p l e R s m args below meth c H locs cells slots Q (F0 m pc ls (.int (zi_ z) :: .ref (q 5) :: rest)) := zv_zald hE hK hh 5 4 rfl rfl (by decide) hz hdg kk
theorem sX_staleMark {ky wt sa ea sm ln fi fk fo op : Int → Int} {ni ns ev cu wa fr oo : Int} {y : Int} (hE : ze_ p c cc) (hK : va_K (dC, dI) vwCl (tX_ cA) s) (hh : hp_ (dC, dI) vwCl A H0 (wX_ q cA (ky, wt, sa, ea, sm, ln, fi, fk, fo, op, ni, ns, ev, cu, wa, fr, oo)) H locs) (hz : 0 ≤ z ∧ z < 600) (hy : zb_ y) (hdg : decode cc pc = .ok (.bastore, 1)) (kk : ∀ (H : Heap) (locs : List Loc), hp_ (dC, dI) vwCl A H0 (wX_ q cA (ky, wt, sa, ea, up_ sm z y, ln, fi, fk, fo, op, ni, ns, ev, cu, wa, fr, oo)) H locs → W p l e R s m args below meth c H locs cells slots Q (F0 m (pc + 1) ls rest)) : W p l e R s m args below meth c H locs cells slots Q (F0 m pc ls (.int (zi_ y) :: .int (zi_ z) :: .ref (q 5) :: rest)) := zv_zast (ws' := wX_ q cA (ky, wt, sa, ea, up_ sm z y, ln, fi, fk, fo, op, ni, ns, ev, cu, wa, fr, oo)) hE hK hh 5 4 rfl rfl (by decide) hz hy hdg rfl kk
theorem gX_intervals {ky wt sa ea sm ln fi fk fo op : Int → Int} {ni ns ev cu wa fr oo : Int} (hE : ze_ p c cc) (hX : ∀ w ∈ wsX_, w.before args s = true) (hown : s.vm.findClass RX0 = some m.cls) (hK : va_K (dC, dI) vwCl (tX_ cA) s) (hh : hp_ (dC, dI) vwCl A H0 (wX_ q cA (ky, wt, sa, ea, sm, ln, fi, fk, fo, op, ni, ns, ev, cu, wa, fr, oo)) H locs) (hdg : decode cc pc = .ok (.getfield 55, 3)) (kk : W p l e R s m args below meth c H locs cells slots Q (F0 m (pc + 3) ls (.int (zi_ ni) :: rest))) : W p l e R s m args below meth c H locs cells slots Q (F0 m pc ls (.ref (q 0) :: rest)) := gX_ hE hX hown hK hh 5 (by decide) rfl mX_fl_55 rfl hdg kk
theorem pX_intervals {ky wt sa ea sm ln fi fk fo op : Int → Int} {ni ns ev cu wa fr oo : Int} (hE : ze_ p c cc) (hX : ∀ w ∈ wsX_, w.before args s = true) (hown : s.vm.findClass RX0 = some m.cls) (hK : va_K (dC, dI) vwCl (tX_ cA) s) (hh : hp_ (dC, dI) vwCl A H0 (wX_ q cA (ky, wt, sa, ea, sm, ln, fi, fk, fo, op, ni, ns, ev, cu, wa, fr, oo)) H locs) (hdg : decode cc pc = .ok (.putfield 55, 3)) (kk : ∀ (H : Heap) (locs : List Loc), hp_ (dC, dI) vwCl A H0 (wX_ q cA (ky, wt, sa, ea, sm, ln, fi, fk, fo, op, z, ns, ev, cu, wa, fr, oo)) H locs → W p l e R s m args below meth c H locs cells slots Q (F0 m (pc + 3) ls rest)) : W p l e R s m args below meth c H locs cells slots Q (F0 m pc ls (.int (zi_ z) :: .ref (q 0) :: rest)) := pX_ (x' := (ky, wt, sa, ea, sm, ln, fi, fk, fo, op, z, ns, ev, cu, wa, fr, oo)) hE hX hown hK hh 5 (by decide) rfl mX_fl_55 rfl (by decide +kernel) (Nat.le_of_ble_eq_true rfl) hdg rfl kk
theorem gX_staleOnes {ky wt sa ea sm ln fi fk fo op : Int → Int} {ni ns ev cu wa fr oo : Int} (hE : ze_ p c cc) (hX : ∀ w ∈ wsX_, w.before args s = true) (hown : s.vm.findClass RX0 = some m.cls) (hK : va_K (dC, dI) vwCl (tX_ cA) s) (hh : hp_ (dC, dI) vwCl A H0 (wX_ q cA (ky, wt, sa, ea, sm, ln, fi, fk, fo, op, ni, ns, ev, cu, wa, fr, oo)) H locs) (hdg : decode cc pc = .ok (.getfield 79, 3)) (kk : W p l e R s m args below meth c H locs cells slots Q (F0 m (pc + 3) ls (.int (zi_ ns) :: rest))) : W p l e R s m args below meth c H locs cells slots Q (F0 m pc ls (.ref (q 0) :: rest)) := gX_ hE hX hown hK hh 6 (by decide) rfl mX_fl_79 rfl hdg kk
theorem pX_staleOnes {ky wt sa ea sm ln fi fk fo op : Int → Int} {ni ns ev cu wa fr oo : Int} (hE : ze_ p c cc) (hX : ∀ w ∈ wsX_, w.before args s = true) (hown : s.vm.findClass RX0 = some m.cls) (hK : va_K (dC, dI) vwCl (tX_ cA) s) (hh : hp_ (dC, dI) vwCl A H0 (wX_ q cA (ky, wt, sa, ea, sm, ln, fi, fk, fo, op, ni, ns, ev, cu, wa, fr, oo)) H locs) (hdg : decode cc pc = .ok (.putfield 79, 3)) (kk : ∀ (H : Heap) (locs : List Loc), hp_ (dC, dI) vwCl A H0 (wX_ q cA (ky, wt, sa, ea, sm, ln, fi, fk, fo, op, ni, z, ev, cu, wa, fr, oo)) H locs → W p l e R s m args below meth c H locs cells slots Q (F0 m (pc + 3) ls rest)) : W p l e R s m args below meth c H locs cells slots Q (F0 m pc ls (.int (zi_ z) :: .ref (q 0) :: rest)) := pX_ (x' := (ky, wt, sa, ea, sm, ln, fi, fk, fo, op, ni, z, ev, cu, wa, fr, oo)) hE hX hown hK hh 6 (by decide) rfl mX_fl_79 rfl (by decide +kernel) (Nat.le_of_ble_eq_true rfl) hdg rfl kk
theorem gX_line {ky wt sa ea sm ln fi fk fo op : Int → Int} {ni ns ev cu wa fr oo : Int} (hE : ze_ p c cc) (hX : ∀ w ∈ wsX_, w.before args s = true) (hown : s.vm.findClass RX0 = some m.cls) (hK : va_K (dC, dI) vwCl (tX_ cA) s) (hh : hp_ (dC, dI) vwCl A H0 (wX_ q cA (ky, wt, sa, ea, sm, ln, fi, fk, fo, op, ni, ns, ev, cu, wa, fr, oo)) H locs) (hdg : decode cc pc = .ok (.getfield 26, 3)) (kk : W p l e R s m args below meth c H locs cells slots Q (F0 m (pc + 3) ls (.ref (q 6) :: rest))) : W p l e R s m args below meth c H locs cells slots Q (F0 m pc ls (.ref (q 0) :: rest)) := gX_ hE hX hown hK hh 7 (by decide) rfl mX_fl_26 rfl hdg kk
theorem rX_line {ky wt sa ea sm ln fi fk fo op : Int → Int} {ni ns ev cu wa fr oo : Int} (hE : ze_ p c cc) (hK : va_K (dC, dI) vwCl (tX_ cA) s) (hh : hp_ (dC, dI) vwCl A H0 (wX_ q cA (ky, wt, sa, ea, sm, ln, fi, fk, fo, op, ni, ns, ev, cu, wa, fr, oo)) H locs) (hz : 0 ≤ z ∧ z < 1200) (hdg : decode cc pc = .ok (.iaload, 1)) (kk : W p l e R s m args below meth c H locs cells slots Q (F0 m (pc + 1) ls (.int (zi_ (ln z)) :: rest))) : W p l e R s m args below meth c H locs cells slots Q (F0 m pc ls (.int (zi_ z) :: .ref (q 6) :: rest)) := zv_iald hE hK hh 6 5 rfl rfl (by decide) hz hdg kk
theorem sX_line {ky wt sa ea sm ln fi fk fo op : Int → Int} {ni ns ev cu wa fr oo : Int} {y : Int} (hE : ze_ p c cc) (hK : va_K (dC, dI) vwCl (tX_ cA) s) (hh : hp_ (dC, dI) vwCl A H0 (wX_ q cA (ky, wt, sa, ea, sm, ln, fi, fk, fo, op, ni, ns, ev, cu, wa, fr, oo)) H locs) (hz : 0 ≤ z ∧ z < 1200) (hdg : decode cc pc = .ok (.iastore, 1)) (kk : ∀ (H : Heap) (locs : List Loc), hp_ (dC, dI) vwCl A H0 (wX_ q cA (ky, wt, sa, ea, sm, up_ ln z y, fi, fk, fo, op, ni, ns, ev, cu, wa, fr, oo)) H locs → W p l e R s m args below meth c H locs cells slots Q (F0 m (pc + 1) ls rest)) : W p l e R s m args below meth c H locs cells slots Q (F0 m pc ls (.int (zi_ y) :: .int (zi_ z) :: .ref (q 6) :: rest)) := zv_iast (ws' := wX_ q cA (ky, wt, sa, ea, sm, up_ ln z y, fi, fk, fo, op, ni, ns, ev, cu, wa, fr, oo)) hE hK hh 6 5 rfl rfl (by decide) hz hdg rfl kk
theorem gX_events {ky wt sa ea sm ln fi fk fo op : Int → Int} {ni ns ev cu wa fr oo : Int} (hE : ze_ p c cc) (hX : ∀ w ∈ wsX_, w.before args s = true) (hown : s.vm.findClass RX0 = some m.cls) (hK : va_K (dC, dI) vwCl (tX_ cA) s) (hh : hp_ (dC, dI) vwCl A H0 (wX_ q cA (ky, wt, sa, ea, sm, ln, fi, fk, fo, op, ni, ns, ev, cu, wa, fr, oo)) H locs) (hdg : decode cc pc = .ok (.getfield 106, 3)) (kk : W p l e R s m args below meth c H locs cells slots Q (F0 m (pc + 3) ls (.int (zi_ ev) :: rest))) : W p l e R s m args below meth c H locs cells slots Q (F0 m pc ls (.ref (q 0) :: rest)) := gX_ hE hX hown hK hh 8 (by decide) rfl mX_fl_106 rfl hdg kk
theorem pX_events {ky wt sa ea sm ln fi fk fo op : Int → Int} {ni ns ev cu wa fr oo : Int} (hE : ze_ p c cc) (hX : ∀ w ∈ wsX_, w.before args s = true) (hown : s.vm.findClass RX0 = some m.cls) (hK : va_K (dC, dI) vwCl (tX_ cA) s) (hh : hp_ (dC, dI) vwCl A H0 (wX_ q cA (ky, wt, sa, ea, sm, ln, fi, fk, fo, op, ni, ns, ev, cu, wa, fr, oo)) H locs) (hdg : decode cc pc = .ok (.putfield 106, 3)) (kk : ∀ (H : Heap) (locs : List Loc), hp_ (dC, dI) vwCl A H0 (wX_ q cA (ky, wt, sa, ea, sm, ln, fi, fk, fo, op, ni, ns, z, cu, wa, fr, oo)) H locs → W p l e R s m args below meth c H locs cells slots Q (F0 m (pc + 3) ls rest)) : W p l e R s m args below meth c H locs cells slots Q (F0 m pc ls (.int (zi_ z) :: .ref (q 0) :: rest)) := pX_ (x' := (ky, wt, sa, ea, sm, ln, fi, fk, fo, op, ni, ns, z, cu, wa, fr, oo)) hE hX hown hK hh 8 (by decide) rfl mX_fl_106 rfl (by decide +kernel) (Nat.le_of_ble_eq_true rfl) hdg rfl kk
theorem gX_cursor {ky wt sa ea sm ln fi fk fo op : Int → Int} {ni ns ev cu wa fr oo : Int} (hE : ze_ p c cc) (hX : ∀ w ∈ wsX_, w.before args s = true) (hown : s.vm.findClass RX0 = some m.cls) (hK : va_K (dC, dI) vwCl (tX_ cA) s) (hh : hp_ (dC, dI) vwCl A H0 (wX_ q cA (ky, wt, sa, ea, sm, ln, fi, fk, fo, op, ni, ns, ev, cu, wa, fr, oo)) H locs) (hdg : decode cc pc = .ok (.getfield 96, 3)) (kk : W p l e R s m args below meth c H locs cells slots Q (F0 m (pc + 3) ls (.int (zi_ cu) :: rest))) : W p l e R s m args below meth c H locs cells slots Q (F0 m pc ls (.ref (q 0) :: rest)) := gX_ hE hX hown hK hh 9 (by decide) rfl mX_fl_96 rfl hdg kk
theorem pX_cursor {ky wt sa ea sm ln fi fk fo op : Int → Int} {ni ns ev cu wa fr oo : Int} (hE : ze_ p c cc) (hX : ∀ w ∈ wsX_, w.before args s = true) (hown : s.vm.findClass RX0 = some m.cls) (hK : va_K (dC, dI) vwCl (tX_ cA) s) (hh : hp_ (dC, dI) vwCl A H0 (wX_ q cA (ky, wt, sa, ea, sm, ln, fi, fk, fo, op, ni, ns, ev, cu, wa, fr, oo)) H locs) (hdg : decode cc pc = .ok (.putfield 96, 3)) (kk : ∀ (H : Heap) (locs : List Loc), hp_ (dC, dI) vwCl A H0 (wX_ q cA (ky, wt, sa, ea, sm, ln, fi, fk, fo, op, ni, ns, ev, z, wa, fr, oo)) H locs → W p l e R s m args below meth c H locs cells slots Q (F0 m (pc + 3) ls rest)) : W p l e R s m args below meth c H locs cells slots Q (F0 m pc ls (.int (zi_ z) :: .ref (q 0) :: rest)) := pX_ (x' := (ky, wt, sa, ea, sm, ln, fi, fk, fo, op, ni, ns, ev, z, wa, fr, oo)) hE hX hown hK hh 9 (by decide) rfl mX_fl_96 rfl (by decide +kernel) (Nat.le_of_ble_eq_true rfl) hdg rfl kk
theorem gX_weightInAll {ky wt sa ea sm ln fi fk fo op : Int → Int} {ni ns ev cu wa fr oo : Int} (hE : ze_ p c cc) (hX : ∀ w ∈ wsX_, w.before args s = true) (hown : s.vm.findClass RX0 = some m.cls) (hK : va_K (dC, dI) vwCl (tX_ cA) s) (hh : hp_ (dC, dI) vwCl A H0 (wX_ q cA (ky, wt, sa, ea, sm, ln, fi, fk, fo, op, ni, ns, ev, cu, wa, fr, oo)) H locs) (hdg : decode cc pc = .ok (.getfield 66, 3)) (kk : W p l e R s m args below meth c H locs cells slots Q (F0 m (pc + 3) ls (.int (zi_ wa) :: rest))) : W p l e R s m args below meth c H locs cells slots Q (F0 m pc ls (.ref (q 0) :: rest)) := gX_ hE hX hown hK hh 10 (by decide) rfl mX_fl_66 rfl hdg kk
theorem pX_weightInAll {ky wt sa ea sm ln fi fk fo op : Int → Int} {ni ns ev cu wa fr oo : Int} (hE : ze_ p c cc) (hX : ∀ w ∈ wsX_, w.before args s = true) (hown : s.vm.findClass RX0 = some m.cls) (hK : va_K (dC, dI) vwCl (tX_ cA) s) (hh : hp_ (dC, dI) vwCl A H0 (wX_ q cA (ky, wt, sa, ea, sm, ln, fi, fk, fo, op, ni, ns, ev, cu, wa, fr, oo)) H locs) (hdg : decode cc pc = .ok (.putfield 66, 3)) (kk : ∀ (H : Heap) (locs : List Loc), hp_ (dC, dI) vwCl A H0 (wX_ q cA (ky, wt, sa, ea, sm, ln, fi, fk, fo, op, ni, ns, ev, cu, z, fr, oo)) H locs → W p l e R s m args below meth c H locs cells slots Q (F0 m (pc + 3) ls rest)) : W p l e R s m args below meth c H locs cells slots Q (F0 m pc ls (.int (zi_ z) :: .ref (q 0) :: rest)) := pX_ (x' := (ky, wt, sa, ea, sm, ln, fi, fk, fo, op, ni, ns, ev, cu, z, fr, oo)) hE hX hown hK hh 10 (by decide) rfl mX_fl_66 rfl (by decide +kernel) (Nat.le_of_ble_eq_true rfl) hdg rfl kk
theorem gX_frameInterval {ky wt sa ea sm ln fi fk fo op : Int → Int} {ni ns ev cu wa fr oo : Int} (hE : ze_ p c cc) (hX : ∀ w ∈ wsX_, w.before args s = true) (hown : s.vm.findClass RX0 = some m.cls) (hK : va_K (dC, dI) vwCl (tX_ cA) s) (hh : hp_ (dC, dI) vwCl A H0 (wX_ q cA (ky, wt, sa, ea, sm, ln, fi, fk, fo, op, ni, ns, ev, cu, wa, fr, oo)) H locs) (hdg : decode cc pc = .ok (.getfield 29, 3)) (kk : W p l e R s m args below meth c H locs cells slots Q (F0 m (pc + 3) ls (.ref (q 7) :: rest))) : W p l e R s m args below meth c H locs cells slots Q (F0 m pc ls (.ref (q 0) :: rest)) := gX_ hE hX hown hK hh 11 (by decide) rfl mX_fl_29 rfl hdg kk
theorem rX_frameInterval {ky wt sa ea sm ln fi fk fo op : Int → Int} {ni ns ev cu wa fr oo : Int} (hE : ze_ p c cc) (hK : va_K (dC, dI) vwCl (tX_ cA) s) (hh : hp_ (dC, dI) vwCl A H0 (wX_ q cA (ky, wt, sa, ea, sm, ln, fi, fk, fo, op, ni, ns, ev, cu, wa, fr, oo)) H locs) (hz : 0 ≤ z ∧ z < 64) (hdg : decode cc pc = .ok (.iaload, 1)) (kk : W p l e R s m args below meth c H locs cells slots Q (F0 m (pc + 1) ls (.int (zi_ (fi z)) :: rest))) : W p l e R s m args below meth c H locs cells slots Q (F0 m pc ls (.int (zi_ z) :: .ref (q 7) :: rest)) := zv_iald hE hK hh 7 6 rfl rfl (by decide) hz hdg kk
theorem sX_frameInterval {ky wt sa ea sm ln fi fk fo op : Int → Int} {ni ns ev cu wa fr oo : Int} {y : Int} (hE : ze_ p c cc) (hK : va_K (dC, dI) vwCl (tX_ cA) s) (hh : hp_ (dC, dI) vwCl A H0 (wX_ q cA (ky, wt, sa, ea, sm, ln, fi, fk, fo, op, ni, ns, ev, cu, wa, fr, oo)) H locs) (hz : 0 ≤ z ∧ z < 64) (hdg : decode cc pc = .ok (.iastore, 1)) (kk : ∀ (H : Heap) (locs : List Loc), hp_ (dC, dI) vwCl A H0 (wX_ q cA (ky, wt, sa, ea, sm, ln, up_ fi z y, fk, fo, op, ni, ns, ev, cu, wa, fr, oo)) H locs → W p l e R s m args below meth c H locs cells slots Q (F0 m (pc + 1) ls rest)) : W p l e R s m args below meth c H locs cells slots Q (F0 m pc ls (.int (zi_ y) :: .int (zi_ z) :: .ref (q 7) :: rest)) := zv_iast (ws' := wX_ q cA (ky, wt, sa, ea, sm, ln, up_ fi z y, fk, fo, op, ni, ns, ev, cu, wa, fr, oo)) hE hK hh 7 6 rfl rfl (by decide) hz hdg rfl kk
theorem gX_frameKind {ky wt sa ea sm ln fi fk fo op : Int → Int} {ni ns ev cu wa fr oo : Int} (hE : ze_ p c cc) (hX : ∀ w ∈ wsX_, w.before args s = true) (hown : s.vm.findClass RX0 = some m.cls) (hK : va_K (dC, dI) vwCl (tX_ cA) s) (hh : hp_ (dC, dI) vwCl A H0 (wX_ q cA (ky, wt, sa, ea, sm, ln, fi, fk, fo, op, ni, ns, ev, cu, wa, fr, oo)) H locs) (hdg : decode cc pc = .ok (.getfield 32, 3)) (kk : W p l e R s m args below meth c H locs cells slots Q (F0 m (pc + 3) ls (.ref (q 8) :: rest))) : W p l e R s m args below meth c H locs cells slots Q (F0 m pc ls (.ref (q 0) :: rest)) := gX_ hE hX hown hK hh 12 (by decide) rfl mX_fl_32 rfl hdg kk
theorem rX_frameKind {ky wt sa ea sm ln fi fk fo op : Int → Int} {ni ns ev cu wa fr oo : Int} (hE : ze_ p c cc) (hK : va_K (dC, dI) vwCl (tX_ cA) s) (hh : hp_ (dC, dI) vwCl A H0 (wX_ q cA (ky, wt, sa, ea, sm, ln, fi, fk, fo, op, ni, ns, ev, cu, wa, fr, oo)) H locs) (hz : 0 ≤ z ∧ z < 64) (hdg : decode cc pc = .ok (.iaload, 1)) (kk : W p l e R s m args below meth c H locs cells slots Q (F0 m (pc + 1) ls (.int (zi_ (fk z)) :: rest))) : W p l e R s m args below meth c H locs cells slots Q (F0 m pc ls (.int (zi_ z) :: .ref (q 8) :: rest)) := zv_iald hE hK hh 8 7 rfl rfl (by decide) hz hdg kk
theorem sX_frameKind {ky wt sa ea sm ln fi fk fo op : Int → Int} {ni ns ev cu wa fr oo : Int} {y : Int} (hE : ze_ p c cc) (hK : va_K (dC, dI) vwCl (tX_ cA) s) (hh : hp_ (dC, dI) vwCl A H0 (wX_ q cA (ky, wt, sa, ea, sm, ln, fi, fk, fo, op, ni, ns, ev, cu, wa, fr, oo)) H locs) (hz : 0 ≤ z ∧ z < 64) (hdg : decode cc pc = .ok (.iastore, 1)) (kk : ∀ (H : Heap) (locs : List Loc), hp_ (dC, dI) vwCl A H0 (wX_ q cA (ky, wt, sa, ea, sm, ln, fi, up_ fk z y, fo, op, ni, ns, ev, cu, wa, fr, oo)) H locs → W p l e R s m args below meth c H locs cells slots Q (F0 m (pc + 1) ls rest)) : W p l e R s m args below meth c H locs cells slots Q (F0 m pc ls (.int (zi_ y) :: .int (zi_ z) :: .ref (q 8) :: rest)) := zv_iast (ws' := wX_ q cA (ky, wt, sa, ea, sm, ln, fi, up_ fk z y, fo, op, ni, ns, ev, cu, wa, fr, oo)) hE hK hh 8 7 rfl rfl (by decide) hz hdg rfl kk
theorem gX_frameOpenBelow {ky wt sa ea sm ln fi fk fo op : Int → Int} {ni ns ev cu wa fr oo : Int} (hE : ze_ p c cc) (hX : ∀ w ∈ wsX_, w.before args s = true) (hown : s.vm.findClass RX0 = some m.cls) (hK : va_K (dC, dI) vwCl (tX_ cA) s) (hh : hp_ (dC, dI) vwCl A H0 (wX_ q cA (ky, wt, sa, ea, sm, ln, fi, fk, fo, op, ni, ns, ev, cu, wa, fr, oo)) H locs) (hdg : decode cc pc = .ok (.getfield 35, 3)) (kk : W p l e R s m args below meth c H locs cells slots Q (F0 m (pc + 3) ls (.ref (q 9) :: rest))) : W p l e R s m args below meth c H locs cells slots Q (F0 m pc ls (.ref (q 0) :: rest)) := gX_ hE hX hown hK hh 13 (by decide) rfl mX_fl_35 rfl hdg kk
theorem rX_frameOpenBelow {ky wt sa ea sm ln fi fk fo op : Int → Int} {ni ns ev cu wa fr oo : Int} (hE : ze_ p c cc) (hK : va_K (dC, dI) vwCl (tX_ cA) s) (hh : hp_ (dC, dI) vwCl A H0 (wX_ q cA (ky, wt, sa, ea, sm, ln, fi, fk, fo, op, ni, ns, ev, cu, wa, fr, oo)) H locs) (hz : 0 ≤ z ∧ z < 64) (hdg : decode cc pc = .ok (.iaload, 1)) (kk : W p l e R s m args below meth c H locs cells slots Q (F0 m (pc + 1) ls (.int (zi_ (fo z)) :: rest))) : W p l e R s m args below meth c H locs cells slots Q (F0 m pc ls (.int (zi_ z) :: .ref (q 9) :: rest)) := zv_iald hE hK hh 9 8 rfl rfl (by decide) hz hdg kk
theorem sX_frameOpenBelow {ky wt sa ea sm ln fi fk fo op : Int → Int} {ni ns ev cu wa fr oo : Int} {y : Int} (hE : ze_ p c cc) (hK : va_K (dC, dI) vwCl (tX_ cA) s) (hh : hp_ (dC, dI) vwCl A H0 (wX_ q cA (ky, wt, sa, ea, sm, ln, fi, fk, fo, op, ni, ns, ev, cu, wa, fr, oo)) H locs) (hz : 0 ≤ z ∧ z < 64) (hdg : decode cc pc = .ok (.iastore, 1)) (kk : ∀ (H : Heap) (locs : List Loc), hp_ (dC, dI) vwCl A H0 (wX_ q cA (ky, wt, sa, ea, sm, ln, fi, fk, up_ fo z y, op, ni, ns, ev, cu, wa, fr, oo)) H locs → W p l e R s m args below meth c H locs cells slots Q (F0 m (pc + 1) ls rest)) : W p l e R s m args below meth c H locs cells slots Q (F0 m pc ls (.int (zi_ y) :: .int (zi_ z) :: .ref (q 9) :: rest)) := zv_iast (ws' := wX_ q cA (ky, wt, sa, ea, sm, ln, fi, fk, up_ fo z y, op, ni, ns, ev, cu, wa, fr, oo)) hE hK hh 9 8 rfl rfl (by decide) hz hdg rfl kk
theorem gX_frames {ky wt sa ea sm ln fi fk fo op : Int → Int} {ni ns ev cu wa fr oo : Int} (hE : ze_ p c cc) (hX : ∀ w ∈ wsX_, w.before args s = true) (hown : s.vm.findClass RX0 = some m.cls) (hK : va_K (dC, dI) vwCl (tX_ cA) s) (hh : hp_ (dC, dI) vwCl A H0 (wX_ q cA (ky, wt, sa, ea, sm, ln, fi, fk, fo, op, ni, ns, ev, cu, wa, fr, oo)) H locs) (hdg : decode cc pc = .ok (.getfield 82, 3)) (kk : W p l e R s m args below meth c H locs cells slots Q (F0 m (pc + 3) ls (.int (zi_ fr) :: rest))) : W p l e R s m args below meth c H locs cells slots Q (F0 m pc ls (.ref (q 0) :: rest)) := gX_ hE hX hown hK hh 14 (by decide) rfl mX_fl_82 rfl hdg kk
theorem pX_frames {ky wt sa ea sm ln fi fk fo op : Int → Int} {ni ns ev cu wa fr oo : Int} (hE : ze_ p c cc) (hX : ∀ w ∈ wsX_, w.before args s = true) (hown : s.vm.findClass RX0 = some m.cls) (hK : va_K (dC, dI) vwCl (tX_ cA) s) (hh : hp_ (dC, dI) vwCl A H0 (wX_ q cA (ky, wt, sa, ea, sm, ln, fi, fk, fo, op, ni, ns, ev, cu, wa, fr, oo)) H locs) (hdg : decode cc pc = .ok (.putfield 82, 3)) (kk : ∀ (H : Heap) (locs : List Loc), hp_ (dC, dI) vwCl A H0 (wX_ q cA (ky, wt, sa, ea, sm, ln, fi, fk, fo, op, ni, ns, ev, cu, wa, z, oo)) H locs → W p l e R s m args below meth c H locs cells slots Q (F0 m (pc + 3) ls rest)) : W p l e R s m args below meth c H locs cells slots Q (F0 m pc ls (.int (zi_ z) :: .ref (q 0) :: rest)) := pX_ (x' := (ky, wt, sa, ea, sm, ln, fi, fk, fo, op, ni, ns, ev, cu, wa, z, oo)) hE hX hown hK hh 14 (by decide) rfl mX_fl_82 rfl (by decide +kernel) (Nat.le_of_ble_eq_true rfl) hdg rfl kk
theorem gX_open {ky wt sa ea sm ln fi fk fo op : Int → Int} {ni ns ev cu wa fr oo : Int} (hE : ze_ p c cc) (hX : ∀ w ∈ wsX_, w.before args s = true) (hown : s.vm.findClass RX0 = some m.cls) (hK : va_K (dC, dI) vwCl (tX_ cA) s) (hh : hp_ (dC, dI) vwCl A H0 (wX_ q cA (ky, wt, sa, ea, sm, ln, fi, fk, fo, op, ni, ns, ev, cu, wa, fr, oo)) H locs) (hdg : decode cc pc = .ok (.getfield 38, 3)) (kk : W p l e R s m args below meth c H locs cells slots Q (F0 m (pc + 3) ls (.ref (q 10) :: rest))) : W p l e R s m args below meth c H locs cells slots Q (F0 m pc ls (.ref (q 0) :: rest)) := gX_ hE hX hown hK hh 15 (by decide) rfl mX_fl_38 rfl hdg kk
theorem rX_open {ky wt sa ea sm ln fi fk fo op : Int → Int} {ni ns ev cu wa fr oo : Int} (hE : ze_ p c cc) (hK : va_K (dC, dI) vwCl (tX_ cA) s) (hh : hp_ (dC, dI) vwCl A H0 (wX_ q cA (ky, wt, sa, ea, sm, ln, fi, fk, fo, op, ni, ns, ev, cu, wa, fr, oo)) H locs) (hz : 0 ≤ z ∧ z < 600) (hdg : decode cc pc = .ok (.iaload, 1)) (kk : W p l e R s m args below meth c H locs cells slots Q (F0 m (pc + 1) ls (.int (zi_ (op z)) :: rest))) : W p l e R s m args below meth c H locs cells slots Q (F0 m pc ls (.int (zi_ z) :: .ref (q 10) :: rest)) := zv_iald hE hK hh 10 9 rfl rfl (by decide) hz hdg kk
theorem sX_open {ky wt sa ea sm ln fi fk fo op : Int → Int} {ni ns ev cu wa fr oo : Int} {y : Int} (hE : ze_ p c cc) (hK : va_K (dC, dI) vwCl (tX_ cA) s) (hh : hp_ (dC, dI) vwCl A H0 (wX_ q cA (ky, wt, sa, ea, sm, ln, fi, fk, fo, op, ni, ns, ev, cu, wa, fr, oo)) H locs) (hz : 0 ≤ z ∧ z < 600) (hdg : decode cc pc = .ok (.iastore, 1)) (kk : ∀ (H : Heap) (locs : List Loc), hp_ (dC, dI) vwCl A H0 (wX_ q cA (ky, wt, sa, ea, sm, ln, fi, fk, fo, up_ op z y, ni, ns, ev, cu, wa, fr, oo)) H locs → W p l e R s m args below meth c H locs cells slots Q (F0 m (pc + 1) ls rest)) : W p l e R s m args below meth c H locs cells slots Q (F0 m pc ls (.int (zi_ y) :: .int (zi_ z) :: .ref (q 10) :: rest)) := zv_iast (ws' := wX_ q cA (ky, wt, sa, ea, sm, ln, fi, fk, fo, up_ op z y, ni, ns, ev, cu, wa, fr, oo)) hE hK hh 10 9 rfl rfl (by decide) hz hdg rfl kk
theorem gX_openOnes {ky wt sa ea sm ln fi fk fo op : Int → Int} {ni ns ev cu wa fr oo : Int} (hE : ze_ p c cc) (hX : ∀ w ∈ wsX_, w.before args s = true) (hown : s.vm.findClass RX0 = some m.cls) (hK : va_K (dC, dI) vwCl (tX_ cA) s) (hh : hp_ (dC, dI) vwCl A H0 (wX_ q cA (ky, wt, sa, ea, sm, ln, fi, fk, fo, op, ni, ns, ev, cu, wa, fr, oo)) H locs) (hdg : decode cc pc = .ok (.getfield 51, 3)) (kk : W p l e R s m args below meth c H locs cells slots Q (F0 m (pc + 3) ls (.int (zi_ oo) :: rest))) : W p l e R s m args below meth c H locs cells slots Q (F0 m pc ls (.ref (q 0) :: rest)) := gX_ hE hX hown hK hh 16 (by decide) rfl mX_fl_51 rfl hdg kk
theorem pX_openOnes {ky wt sa ea sm ln fi fk fo op : Int → Int} {ni ns ev cu wa fr oo : Int} (hE : ze_ p c cc) (hX : ∀ w ∈ wsX_, w.before args s = true) (hown : s.vm.findClass RX0 = some m.cls) (hK : va_K (dC, dI) vwCl (tX_ cA) s) (hh : hp_ (dC, dI) vwCl A H0 (wX_ q cA (ky, wt, sa, ea, sm, ln, fi, fk, fo, op, ni, ns, ev, cu, wa, fr, oo)) H locs) (hdg : decode cc pc = .ok (.putfield 51, 3)) (kk : ∀ (H : Heap) (locs : List Loc), hp_ (dC, dI) vwCl A H0 (wX_ q cA (ky, wt, sa, ea, sm, ln, fi, fk, fo, op, ni, ns, ev, cu, wa, fr, z)) H locs → W p l e R s m args below meth c H locs cells slots Q (F0 m (pc + 3) ls rest)) : W p l e R s m args below meth c H locs cells slots Q (F0 m pc ls (.int (zi_ z) :: .ref (q 0) :: rest)) := pX_ (x' := (ky, wt, sa, ea, sm, ln, fi, fk, fo, op, ni, ns, ev, cu, wa, fr, z)) hE hX hown hK hh 16 (by decide) rfl mX_fl_51 rfl (by decide +kernel) (Nat.le_of_ble_eq_true rfl) hdg rfl kk
end XV
end
section
set_option maxHeartbeats 400000 in
set_option maxRecDepth 100000 in
theorem kX_isStart (l : Launch) (e1 : Int) (h0 : 0 ≤ e1) (h1 : e1 ≤ 2147483647) : mc_s l yX0_isStart wsX0_isStart ({ frames := 0, cells := 0, slots := 0, locals := 0 }) [.int (zi_ e1)] (fun z => (e1 % 2 = 0 → z = 1) ∧ (e1 % 2 = 1 → z = 0)) := by
  refine mc_s_of (cc := cX0_isStart) (maxL := 1) (ret := (some .boolean)) (by decide) rfl (Nat.le_of_ble_eq_true rfl) ?_
  intro p e s m below meth c ls hE hml hown hts hr hlk hl
  have hl : lv_has ls 1 [(0, .int (zi_ e1))] := hl
  refine lv_iload_n hE.1 hE.2 dX0_isStart_0 rfl (lv_at hl 0 rfl) ?_
  refine zv_iconst hE dX0_isStart_1 ?_
  refine zv_rem2 hE ⟨by omega, by omega⟩ dX0_isStart_2 ?_
  refine zv_if_ne (tgt := 10) hE dX0_isStart_3 (by decide) ⟨by omega, by omega⟩ (fun hc_1 => ?_) (fun hc_1 => ?_)
  · refine zv_iconst hE dX0_isStart_10 ?_
    exact mc_rets hE hr hlk dX0_isStart_11 (by first | exact Or.inl rfl | exact Or.inr rfl | assumption) (by omega)
  · refine zv_iconst hE dX0_isStart_6 ?_
    refine lv_goto (tgt := 11) hE.1 hE.2 dX0_isStart_7 (by decide) ?_
    exact mc_rets hE hr hlk dX0_isStart_11 (by first | exact Or.inl rfl | exact Or.inr rfl | assumption) (by omega)
set_option maxHeartbeats 400000 in
set_option maxRecDepth 100000 in
theorem kX_lastInterval (l : Launch) (dC : Nat → ClassId) (dI : Nat → Nat → Nat) (q : Nat → Nat) (cA : Nat → ClassId) (ky wt sa ea sm ln fi fk fo op : Int → Int) (ni ns ev cu wa fr oo : Int) (hf1 : 1 ≤ fr) (hf2 : fr ≤ 64) : mc_i l (dC, dI) vwCl (tX_ cA) (wX_ q cA) yX0_lastInterval wsX0_lastInterval ({ frames := 0, cells := 0, slots := 0, locals := 0 }) (ky, wt, sa, ea, sm, ln, fi, fk, fo, op, ni, ns, ev, cu, wa, fr, oo) [.ref (q 0)] (fun (z : Int) (u : SX_) => u = (ky, wt, sa, ea, sm, ln, fi, fk, fo, op, ni, ns, ev, cu, wa, fr, oo) ∧ z = fi (fr - 1)) := by
  refine mc_i_of (cc := cX0_lastInterval) (maxL := 1) (ret := (some .int)) (by decide) rfl (Nat.le_of_ble_eq_true rfl) ?_
  intro p e s m below meth c A ls hE hml hown hts hr hlk hA hK hh hl
  have hown : s.vm.findClass RX0 = some m.cls := hown
  have hX : ∀ w ∈ wsX_, w.before _ s = true := fun w h => hts w (List.mem_cons_of_mem _ h)
  have hl : lv_has ls 1 [(0, .ref (q 0))] := hl
  refine lv_aload_n hE.1 hE.2 dX0_lastInterval_0 rfl (lv_at hl 0 rfl) ?_
  refine gX_frameInterval hE hX hown hK hh dX0_lastInterval_1 ?_
  refine lv_aload_n hE.1 hE.2 dX0_lastInterval_4 rfl (lv_at hl 0 rfl) ?_
  refine gX_frames hE hX hown hK hh dX0_lastInterval_5 ?_
  refine zv_iconst hE dX0_lastInterval_8 ?_
  refine zv_isub hE dX0_lastInterval_9 ?_
  refine rX_frameInterval hE hK hh ⟨by omega, by omega⟩ dX0_lastInterval_10 ?_
  refine mc_ret (u := (ky, wt, sa, ea, sm, ln, fi, fk, fo, op, ni, ns, ev, cu, wa, fr, oo)) hE hr hlk hK hh dX0_lastInterval_11 ?_
  exact ⟨rfl, rfl⟩
set_option maxHeartbeats 400000 in
set_option maxRecDepth 100000 in
theorem kX_lastKind (l : Launch) (dC : Nat → ClassId) (dI : Nat → Nat → Nat) (q : Nat → Nat) (cA : Nat → ClassId) (ky wt sa ea sm ln fi fk fo op : Int → Int) (ni ns ev cu wa fr oo : Int) (hf1 : 1 ≤ fr) (hf2 : fr ≤ 64) : mc_i l (dC, dI) vwCl (tX_ cA) (wX_ q cA) yX0_lastKind wsX0_lastKind ({ frames := 0, cells := 0, slots := 0, locals := 0 }) (ky, wt, sa, ea, sm, ln, fi, fk, fo, op, ni, ns, ev, cu, wa, fr, oo) [.ref (q 0)] (fun (z : Int) (u : SX_) => u = (ky, wt, sa, ea, sm, ln, fi, fk, fo, op, ni, ns, ev, cu, wa, fr, oo) ∧ z = fk (fr - 1)) := by
  refine mc_i_of (cc := cX0_lastKind) (maxL := 1) (ret := (some .int)) (by decide) rfl (Nat.le_of_ble_eq_true rfl) ?_
  intro p e s m below meth c A ls hE hml hown hts hr hlk hA hK hh hl
  have hown : s.vm.findClass RX0 = some m.cls := hown
  have hX : ∀ w ∈ wsX_, w.before _ s = true := fun w h => hts w (List.mem_cons_of_mem _ h)
  have hl : lv_has ls 1 [(0, .ref (q 0))] := hl
  refine lv_aload_n hE.1 hE.2 dX0_lastKind_0 rfl (lv_at hl 0 rfl) ?_
  refine gX_frameKind hE hX hown hK hh dX0_lastKind_1 ?_
  refine lv_aload_n hE.1 hE.2 dX0_lastKind_4 rfl (lv_at hl 0 rfl) ?_
  refine gX_frames hE hX hown hK hh dX0_lastKind_5 ?_
  refine zv_iconst hE dX0_lastKind_8 ?_
  refine zv_isub hE dX0_lastKind_9 ?_
  refine rX_frameKind hE hK hh ⟨by omega, by omega⟩ dX0_lastKind_10 ?_
  refine mc_ret (u := (ky, wt, sa, ea, sm, ln, fi, fk, fo, op, ni, ns, ev, cu, wa, fr, oo)) hE hr hlk hK hh dX0_lastKind_11 ?_
  exact ⟨rfl, rfl⟩
set_option maxHeartbeats 400000 in
set_option maxRecDepth 100000 in
theorem kX_lastOpen (l : Launch) (dC : Nat → ClassId) (dI : Nat → Nat → Nat) (q : Nat → Nat) (cA : Nat → ClassId) (ky wt sa ea sm ln fi fk fo op : Int → Int) (ni ns ev cu wa fr oo : Int) (hf1 : 1 ≤ fr) (hf2 : fr ≤ 64) (hf3 : 0 ≤ fo (fr - 1) ∧ fo (fr - 1) ≤ 600) (hf4 : 0 ≤ oo ∧ oo ≤ 600) : mc_i l (dC, dI) vwCl (tX_ cA) (wX_ q cA) yX0_lastOpen wsX0_lastOpen ({ frames := 0, cells := 0, slots := 0, locals := 0 }) (ky, wt, sa, ea, sm, ln, fi, fk, fo, op, ni, ns, ev, cu, wa, fr, oo) [.ref (q 0)] (fun (z : Int) (u : SX_) => u = (ky, wt, sa, ea, sm, ln, fi, fk, fo, op, ni, ns, ev, cu, wa, fr, oo) ∧ (fo (fr - 1) < oo → z = op (oo - 1)) ∧ (oo ≤ fo (fr - 1) → z = -1)) := by
  refine mc_i_of (cc := cX0_lastOpen) (maxL := 1) (ret := (some .int)) (by decide) rfl (Nat.le_of_ble_eq_true rfl) ?_
  intro p e s m below meth c A ls hE hml hown hts hr hlk hA hK hh hl
  have hown : s.vm.findClass RX0 = some m.cls := hown
  have hX : ∀ w ∈ wsX_, w.before _ s = true := fun w h => hts w (List.mem_cons_of_mem _ h)
  have hl : lv_has ls 1 [(0, .ref (q 0))] := hl
  refine lv_aload_n hE.1 hE.2 dX0_lastOpen_0 rfl (lv_at hl 0 rfl) ?_
  refine gX_openOnes hE hX hown hK hh dX0_lastOpen_1 ?_
  refine lv_aload_n hE.1 hE.2 dX0_lastOpen_4 rfl (lv_at hl 0 rfl) ?_
  refine gX_frameOpenBelow hE hX hown hK hh dX0_lastOpen_5 ?_
  refine lv_aload_n hE.1 hE.2 dX0_lastOpen_8 rfl (lv_at hl 0 rfl) ?_
  refine gX_frames hE hX hown hK hh dX0_lastOpen_9 ?_
  refine zv_iconst hE dX0_lastOpen_12 ?_
  refine zv_isub hE dX0_lastOpen_13 ?_
  refine rX_frameOpenBelow hE hK hh ⟨by omega, by omega⟩ dX0_lastOpen_14 ?_
  refine zv_icmp_le (tgt := 32) hE dX0_lastOpen_15 (by decide) ⟨by omega, by omega⟩ ⟨by omega, by omega⟩ (fun hc_1 => ?_) (fun hc_1 => ?_)
  · refine zv_iconst hE dX0_lastOpen_32 ?_
    refine mc_ret (u := (ky, wt, sa, ea, sm, ln, fi, fk, fo, op, ni, ns, ev, cu, wa, fr, oo)) hE hr hlk hK hh dX0_lastOpen_33 ?_
    exact ⟨rfl, by omega, by omega⟩
  · refine lv_aload_n hE.1 hE.2 dX0_lastOpen_18 rfl (lv_at hl 0 rfl) ?_
    refine gX_open hE hX hown hK hh dX0_lastOpen_19 ?_
    refine lv_aload_n hE.1 hE.2 dX0_lastOpen_22 rfl (lv_at hl 0 rfl) ?_
    refine gX_openOnes hE hX hown hK hh dX0_lastOpen_23 ?_
    refine zv_iconst hE dX0_lastOpen_26 ?_
    refine zv_isub hE dX0_lastOpen_27 ?_
    refine rX_open hE hK hh ⟨by omega, by omega⟩ dX0_lastOpen_28 ?_
    refine lv_goto (tgt := 33) hE.1 hE.2 dX0_lastOpen_29 (by decide) ?_
    refine mc_ret (u := (ky, wt, sa, ea, sm, ln, fi, fk, fo, op, ni, ns, ev, cu, wa, fr, oo)) hE hr hlk hK hh dX0_lastOpen_33 ?_
    exact ⟨rfl, by omega, by omega⟩
set_option maxHeartbeats 400000 in
set_option maxRecDepth 100000 in
theorem kX_isThere (l : Launch) (dC : Nat → ClassId) (dI : Nat → Nat → Nat) (q : Nat → Nat) (cA : Nat → ClassId) (ky wt sa ea sm ln fi fk fo op : Int → Int) (ni ns ev cu wa fr oo : Int) (i : Int) (hi : zr_ i) (hs : 0 ≤ i → i < 600 → zr_ (sa i)) : mc_i l (dC, dI) vwCl (tX_ cA) (wX_ q cA) yX0_isThere wsX0_isThere ({ frames := 0, cells := 0, slots := 0, locals := 0 }) (ky, wt, sa, ea, sm, ln, fi, fk, fo, op, ni, ns, ev, cu, wa, fr, oo) [.ref (q 0), .int (zi_ i)] (fun (z : Int) (u : SX_) => u = (ky, wt, sa, ea, sm, ln, fi, fk, fo, op, ni, ns, ev, cu, wa, fr, oo) ∧ (0 ≤ i ∧ i < 600 ∧ sa i ≠ -1 → z = 1) ∧ (i < 0 ∨ 600 ≤ i ∨ sa i = -1 → z = 0)) := by
  refine mc_i_of (cc := cX0_isThere) (maxL := 2) (ret := (some .boolean)) (by decide) rfl (Nat.le_of_ble_eq_true rfl) ?_
  intro p e s m below meth c A ls hE hml hown hts hr hlk hA hK hh hl
  have hown : s.vm.findClass RX0 = some m.cls := hown
  have hX : ∀ w ∈ wsX_, w.before _ s = true := fun w h => hts w (List.mem_cons_of_mem _ h)
  have hl : lv_has ls 2 [(0, .ref (q 0)), (1, .int (zi_ i))] := hl
  refine lv_iload_n hE.1 hE.2 dX0_isThere_0 rfl (lv_at hl 1 rfl) ?_
  refine zv_if_lt (tgt := 25) hE dX0_isThere_1 (by decide) ⟨by omega, by omega⟩ (fun hc_1 => ?_) (fun hc_1 => ?_)
  · refine zv_iconst hE dX0_isThere_25 ?_
    refine mc_retz (u := (ky, wt, sa, ea, sm, ln, fi, fk, fo, op, ni, ns, ev, cu, wa, fr, oo)) hE hr hlk hK hh dX0_isThere_26 (by first | exact Or.inl rfl | exact Or.inr rfl | assumption) ?_
    exact ⟨rfl, by omega, by omega⟩
  · refine lv_iload_n hE.1 hE.2 dX0_isThere_4 rfl (lv_at hl 1 rfl) ?_
    refine zv_sipush hE dX0_isThere_5 (by decide) ?_
    refine zv_icmp_ge (tgt := 25) hE dX0_isThere_8 (by decide) ⟨by omega, by omega⟩ ⟨by omega, by omega⟩ (fun hc_2 => ?_) (fun hc_2 => ?_)
    · refine zv_iconst hE dX0_isThere_25 ?_
      refine mc_retz (u := (ky, wt, sa, ea, sm, ln, fi, fk, fo, op, ni, ns, ev, cu, wa, fr, oo)) hE hr hlk hK hh dX0_isThere_26 (by first | exact Or.inl rfl | exact Or.inr rfl | assumption) ?_
      exact ⟨rfl, by omega, by omega⟩
    · refine lv_aload_n hE.1 hE.2 dX0_isThere_11 rfl (lv_at hl 0 rfl) ?_
      refine gX_startAt hE hX hown hK hh dX0_isThere_12 ?_
      refine lv_iload_n hE.1 hE.2 dX0_isThere_15 rfl (lv_at hl 1 rfl) ?_
      refine rX_startAt hE hK hh ⟨by omega, by omega⟩ dX0_isThere_16 ?_
      refine zv_iconst hE dX0_isThere_17 ?_
      refine zv_icmp_eq (tgt := 25) hE dX0_isThere_18 (by decide) ⟨by omega, by omega⟩ ⟨by omega, by omega⟩ (fun hc_3 => ?_) (fun hc_3 => ?_)
      · refine zv_iconst hE dX0_isThere_25 ?_
        refine mc_retz (u := (ky, wt, sa, ea, sm, ln, fi, fk, fo, op, ni, ns, ev, cu, wa, fr, oo)) hE hr hlk hK hh dX0_isThere_26 (by first | exact Or.inl rfl | exact Or.inr rfl | assumption) ?_
        exact ⟨rfl, by omega, by omega⟩
      · refine zv_iconst hE dX0_isThere_21 ?_
        refine lv_goto (tgt := 26) hE.1 hE.2 dX0_isThere_22 (by decide) ?_
        refine mc_retz (u := (ky, wt, sa, ea, sm, ln, fi, fk, fo, op, ni, ns, ev, cu, wa, fr, oo)) hE hr hlk hK hh dX0_isThere_26 (by first | exact Or.inl rfl | exact Or.inr rfl | assumption) ?_
        exact ⟨rfl, by omega, by omega⟩
set_option maxHeartbeats 400000 in
set_option maxRecDepth 100000 in
theorem kX_isEnded (l : Launch) (dC : Nat → ClassId) (dI : Nat → Nat → Nat) (q : Nat → Nat) (cA : Nat → ClassId) (ky wt sa ea sm ln fi fk fo op : Int → Int) (ni ns ev cu wa fr oo : Int) (i : Int) (h0 : 0 ≤ i) (h1 : i < 600) (hs : zr_ (ea i)) : mc_i l (dC, dI) vwCl (tX_ cA) (wX_ q cA) yX0_isEnded wsX0_isEnded ({ frames := 0, cells := 0, slots := 0, locals := 0 }) (ky, wt, sa, ea, sm, ln, fi, fk, fo, op, ni, ns, ev, cu, wa, fr, oo) [.ref (q 0), .int (zi_ i)] (fun (z : Int) (u : SX_) => u = (ky, wt, sa, ea, sm, ln, fi, fk, fo, op, ni, ns, ev, cu, wa, fr, oo) ∧ (ea i ≠ -1 → z = 1) ∧ (ea i = -1 → z = 0)) := by
  refine mc_i_of (cc := cX0_isEnded) (maxL := 2) (ret := (some .boolean)) (by decide) rfl (Nat.le_of_ble_eq_true rfl) ?_
  intro p e s m below meth c A ls hE hml hown hts hr hlk hA hK hh hl
  have hown : s.vm.findClass RX0 = some m.cls := hown
  have hX : ∀ w ∈ wsX_, w.before _ s = true := fun w h => hts w (List.mem_cons_of_mem _ h)
  have hl : lv_has ls 2 [(0, .ref (q 0)), (1, .int (zi_ i))] := hl
  refine lv_aload_n hE.1 hE.2 dX0_isEnded_0 rfl (lv_at hl 0 rfl) ?_
  refine gX_endAt hE hX hown hK hh dX0_isEnded_1 ?_
  refine lv_iload_n hE.1 hE.2 dX0_isEnded_4 rfl (lv_at hl 1 rfl) ?_
  refine rX_endAt hE hK hh ⟨by omega, by omega⟩ dX0_isEnded_5 ?_
  refine zv_iconst hE dX0_isEnded_6 ?_
  refine zv_icmp_eq (tgt := 14) hE dX0_isEnded_7 (by decide) ⟨by omega, by omega⟩ ⟨by omega, by omega⟩ (fun hc_1 => ?_) (fun hc_1 => ?_)
  · refine zv_iconst hE dX0_isEnded_14 ?_
    refine mc_retz (u := (ky, wt, sa, ea, sm, ln, fi, fk, fo, op, ni, ns, ev, cu, wa, fr, oo)) hE hr hlk hK hh dX0_isEnded_15 (by first | exact Or.inl rfl | exact Or.inr rfl | assumption) ?_
    exact ⟨rfl, by omega, by omega⟩
  · refine zv_iconst hE dX0_isEnded_10 ?_
    refine lv_goto (tgt := 15) hE.1 hE.2 dX0_isEnded_11 (by decide) ?_
    refine mc_retz (u := (ky, wt, sa, ea, sm, ln, fi, fk, fo, op, ni, ns, ev, cu, wa, fr, oo)) hE hr hlk hK hh dX0_isEnded_15 (by first | exact Or.inl rfl | exact Or.inr rfl | assumption) ?_
    exact ⟨rfl, by omega, by omega⟩
set_option maxHeartbeats 400000 in
set_option maxRecDepth 100000 in
theorem kX_aheadUpTo (l : Launch) (dC : Nat → ClassId) (dI : Nat → Nat → Nat) (q : Nat → Nat) (cA : Nat → ClassId) (ky wt sa ea sm ln fi fk fo op : Int → Int) (ni ns ev cu wa fr oo : Int) (hf1 : 1 ≤ fr) (hf2 : fr ≤ 64) (hf5 : -1 ≤ fi (fr - 1) ∧ fi (fr - 1) < 600) : mc_i l (dC, dI) vwCl (tX_ cA) (wX_ q cA) yX0_aheadUpTo wsX0_aheadUpTo ({ frames := 1, cells := 0, slots := 0, locals := 40 }) (ky, wt, sa, ea, sm, ln, fi, fk, fo, op, ni, ns, ev, cu, wa, fr, oo) [.ref (q 0)] (fun (z : Int) (u : SX_) => u = (ky, wt, sa, ea, sm, ln, fi, fk, fo, op, ni, ns, ev, cu, wa, fr, oo) ∧ z = lm_ fi ea ev fr) := by
  refine mc_i_of (cc := cX0_aheadUpTo) (maxL := 2) (ret := (some .int)) (by decide) rfl (Nat.le_of_ble_eq_true rfl) ?_
  intro p e s m below meth c A ls hE hml hown hts hr hlk hA hK hh hl
  have hown : s.vm.findClass RX0 = some m.cls := hown
  have hX : ∀ w ∈ wsX_, w.before _ s = true := fun w h => hts w (List.mem_cons_of_mem _ h)
  have hl : lv_has ls 2 [(0, .ref (q 0))] := hl
  refine lv_aload_n hE.1 hE.2 dX0_aheadUpTo_0 rfl (lv_at hl 0 rfl) ?_
  refine mc_call (rest := []) (As := []) hE hml hown hX hA hK hh (kX_lastInterval l dC dI q cA ky wt sa ea sm ln fi fk fo op ni ns ev cu wa fr oo hf1 hf2) (cwV 0 hX qX_lastInterval rfl rfl rfl (by decide +kernel) ⟨Nat.le_of_ble_eq_true rfl, Nat.le_of_ble_eq_true rfl⟩) rfl rfl hl.1 rfl (Nat.le_of_ble_eq_true rfl) dX0_aheadUpTo_1 ⟨Nat.zero_le _, Nat.zero_le _⟩ rfl (fun z_2 u H locs hq_1 hh => ?_)
  obtain ⟨rfl, rfl⟩ := hq_1
  refine lv_istore_n (lv' := [(1, .int (zi_ (fi (fr - 1)))), (0, .ref (q 0))]) hE.1 hE.2 dX0_aheadUpTo_4 rfl hl (by decide) rfl (fun ls hl => ?_)
  refine lv_iload_n hE.1 hE.2 dX0_aheadUpTo_5 rfl (lv_at hl 0 rfl) ?_
  refine zv_iconst hE dX0_aheadUpTo_6 ?_
  refine zv_icmp_ne (tgt := 17) hE dX0_aheadUpTo_7 (by decide) ⟨by omega, by omega⟩ ⟨by omega, by omega⟩ (fun hc_3 => ?_) (fun hc_3 => ?_)
  · refine lv_aload_n hE.1 hE.2 dX0_aheadUpTo_17 rfl (lv_at hl 1 rfl) ?_
    refine gX_endAt hE hX hown hK hh dX0_aheadUpTo_18 ?_
    refine lv_iload_n hE.1 hE.2 dX0_aheadUpTo_21 rfl (lv_at hl 0 rfl) ?_
    refine rX_endAt hE hK hh ⟨by omega, by omega⟩ dX0_aheadUpTo_22 ?_
    refine mc_ret (u := (ky, wt, sa, ea, sm, ln, fi, fk, fo, op, ni, ns, ev, cu, wa, fr, oo)) hE hr hlk hK hh dX0_aheadUpTo_23 ?_
    exact ⟨rfl, by unfold lm_; first | rw [if_pos (by omega)] | rw [if_neg (by omega)]⟩
  · refine lv_aload_n hE.1 hE.2 dX0_aheadUpTo_10 rfl (lv_at hl 1 rfl) ?_
    refine gX_events hE hX hown hK hh dX0_aheadUpTo_11 ?_
    refine lv_goto (tgt := 23) hE.1 hE.2 dX0_aheadUpTo_14 (by decide) ?_
    refine mc_ret (u := (ky, wt, sa, ea, sm, ln, fi, fk, fo, op, ni, ns, ev, cu, wa, fr, oo)) hE hr hlk hK hh dX0_aheadUpTo_23 ?_
    exact ⟨rfl, by unfold lm_; first | rw [if_pos (by omega)] | rw [if_neg (by omega)]⟩
set_option maxHeartbeats 400000 in
set_option maxRecDepth 100000 in
theorem kX_mayMove (l : Launch) (dC : Nat → ClassId) (dI : Nat → Nat → Nat) (q : Nat → Nat) (cA : Nat → ClassId) (ky wt sa ea sm ln fi fk fo op : Int → Int) (ni ns ev cu wa fr oo : Int) (hf1 : 1 ≤ fr) (hf2 : fr ≤ 64) (hf3 : 0 ≤ fo (fr - 1) ∧ fo (fr - 1) ≤ 600) (hf4 : 0 ≤ oo ∧ oo ≤ 600) (hf6 : fo (fr - 1) < oo → 0 ≤ op (oo - 1) ∧ op (oo - 1) < 600) : mc_i l (dC, dI) vwCl (tX_ cA) (wX_ q cA) yX0_mayMove wsX0_mayMove ({ frames := 1, cells := 0, slots := 0, locals := 40 }) (ky, wt, sa, ea, sm, ln, fi, fk, fo, op, ni, ns, ev, cu, wa, fr, oo) [.ref (q 0)] (fun (z : Int) (u : SX_) => u = (ky, wt, sa, ea, sm, ln, fi, fk, fo, op, ni, ns, ev, cu, wa, fr, oo) ∧ (fr = 1 ∧ oo ≤ fo (fr - 1) → z = 1) ∧ (fr ≠ 1 ∨ fo (fr - 1) < oo → z = 0)) := by
  refine mc_i_of (cc := cX0_mayMove) (maxL := 1) (ret := (some .boolean)) (by decide) rfl (Nat.le_of_ble_eq_true rfl) ?_
  intro p e s m below meth c A ls hE hml hown hts hr hlk hA hK hh hl
  have hown : s.vm.findClass RX0 = some m.cls := hown
  have hX : ∀ w ∈ wsX_, w.before _ s = true := fun w h => hts w (List.mem_cons_of_mem _ h)
  have hl : lv_has ls 1 [(0, .ref (q 0))] := hl
  refine lv_aload_n hE.1 hE.2 dX0_mayMove_0 rfl (lv_at hl 0 rfl) ?_
  refine gX_frames hE hX hown hK hh dX0_mayMove_1 ?_
  refine zv_iconst hE dX0_mayMove_4 ?_
  refine zv_icmp_ne (tgt := 20) hE dX0_mayMove_5 (by decide) ⟨by omega, by omega⟩ ⟨by omega, by omega⟩ (fun hc_1 => ?_) (fun hc_1 => ?_)
  · refine zv_iconst hE dX0_mayMove_20 ?_
    refine mc_retz (u := (ky, wt, sa, ea, sm, ln, fi, fk, fo, op, ni, ns, ev, cu, wa, fr, oo)) hE hr hlk hK hh dX0_mayMove_21 (by first | exact Or.inl rfl | exact Or.inr rfl | assumption) ?_
    exact ⟨rfl, by omega, by omega⟩
  · refine lv_aload_n hE.1 hE.2 dX0_mayMove_8 rfl (lv_at hl 0 rfl) ?_
    refine mc_call (rest := []) (As := []) hE hml hown hX hA hK hh (kX_lastOpen l dC dI q cA ky wt sa ea sm ln fi fk fo op ni ns ev cu wa fr oo hf1 hf2 hf3 hf4) (cwV 0 hX qX_lastOpen rfl rfl rfl (by decide +kernel) ⟨Nat.le_of_ble_eq_true rfl, Nat.le_of_ble_eq_true rfl⟩) rfl rfl hl.1 rfl (Nat.le_of_ble_eq_true rfl) dX0_mayMove_9 ⟨Nat.zero_le _, Nat.zero_le _⟩ rfl (fun z_3 u H locs hq_2 hh => ?_)
    obtain ⟨rfl, hq_2⟩ := hq_2
    refine zv_iconst hE dX0_mayMove_12 ?_
    refine zv_icmp_ne (tgt := 20) hE dX0_mayMove_13 (by decide) ⟨by omega, by omega⟩ ⟨by omega, by omega⟩ (fun hc_4 => ?_) (fun hc_4 => ?_)
    · refine zv_iconst hE dX0_mayMove_20 ?_
      refine mc_retz (u := (ky, wt, sa, ea, sm, ln, fi, fk, fo, op, ni, ns, ev, cu, wa, fr, oo)) hE hr hlk hK hh dX0_mayMove_21 (by first | exact Or.inl rfl | exact Or.inr rfl | assumption) ?_
      exact ⟨rfl, by omega, by omega⟩
    · refine zv_iconst hE dX0_mayMove_16 ?_
      refine lv_goto (tgt := 21) hE.1 hE.2 dX0_mayMove_17 (by decide) ?_
      refine mc_retz (u := (ky, wt, sa, ea, sm, ln, fi, fk, fo, op, ni, ns, ev, cu, wa, fr, oo)) hE hr hlk hK hh dX0_mayMove_21 (by first | exact Or.inl rfl | exact Or.inr rfl | assumption) ?_
      exact ⟨rfl, by omega, by omega⟩
set_option maxHeartbeats 400000 in
set_option maxRecDepth 100000 in
theorem kX_stateOf (l : Launch) (dC : Nat → ClassId) (dI : Nat → Nat → Nat) (q : Nat → Nat) (cA : Nat → ClassId) (ky wt sa ea sm ln fi fk fo op : Int → Int) (ni ns ev cu wa fr oo : Int) (i : Int) (h0 : 0 ≤ i) (h1 : i < 600) (hs : zr_ (ea i)) (hm : sm i = 0 ∨ sm i = 1) : mc_i l (dC, dI) vwCl (tX_ cA) (wX_ q cA) yX0_stateOf wsX0_stateOf ({ frames := 1, cells := 0, slots := 0, locals := 40 }) (ky, wt, sa, ea, sm, ln, fi, fk, fo, op, ni, ns, ev, cu, wa, fr, oo) [.ref (q 0), .int (zi_ i)] (fun (z : Int) (u : SX_) => u = (ky, wt, sa, ea, sm, ln, fi, fk, fo, op, ni, ns, ev, cu, wa, fr, oo) ∧ (ea i = -1 → z = 0) ∧ (ea i ≠ -1 → z = 1 + sm i)) := by
  refine mc_i_of (cc := cX0_stateOf) (maxL := 2) (ret := (some .int)) (by decide) rfl (Nat.le_of_ble_eq_true rfl) ?_
  intro p e s m below meth c A ls hE hml hown hts hr hlk hA hK hh hl
  have hown : s.vm.findClass RX0 = some m.cls := hown
  have hX : ∀ w ∈ wsX_, w.before _ s = true := fun w h => hts w (List.mem_cons_of_mem _ h)
  have hl : lv_has ls 2 [(0, .ref (q 0)), (1, .int (zi_ i))] := hl
  refine lv_aload_n hE.1 hE.2 dX0_stateOf_0 rfl (lv_at hl 0 rfl) ?_
  refine lv_iload_n hE.1 hE.2 dX0_stateOf_1 rfl (lv_at hl 1 rfl) ?_
  refine mc_call (rest := []) (As := [.int (zi_ i)]) hE hml hown hX hA hK hh (kX_isEnded l dC dI q cA ky wt sa ea sm ln fi fk fo op ni ns ev cu wa fr oo i (by omega) (by omega) (by first | assumption | exact ⟨by omega, by omega⟩)) (cwV 1 hX qX_isEnded rfl rfl rfl (by decide +kernel) ⟨Nat.le_of_ble_eq_true rfl, Nat.le_of_ble_eq_true rfl⟩) rfl rfl hl.1 rfl (Nat.le_of_ble_eq_true rfl) dX0_stateOf_2 ⟨Nat.zero_le _, Nat.zero_le _⟩ rfl (fun z_2 u H locs hq_1 hh => ?_)
  obtain ⟨rfl, hq_1⟩ := hq_1
  refine zv_if_ne (tgt := 10) hE dX0_stateOf_5 (by decide) ⟨by omega, by omega⟩ (fun hc_3 => ?_) (fun hc_3 => ?_)
  · refine lv_aload_n hE.1 hE.2 dX0_stateOf_10 rfl (lv_at hl 0 rfl) ?_
    refine gX_staleMark hE hX hown hK hh dX0_stateOf_11 ?_
    refine lv_iload_n hE.1 hE.2 dX0_stateOf_14 rfl (lv_at hl 1 rfl) ?_
    refine rX_staleMark hE hK hh ⟨by omega, by omega⟩ dX0_stateOf_15 ?_
    refine zv_if_eq (tgt := 23) hE dX0_stateOf_16 (by decide) ⟨by omega, by omega⟩ (fun hc_4 => ?_) (fun hc_4 => ?_)
    · refine zv_iconst hE dX0_stateOf_23 ?_
      refine mc_ret (u := (ky, wt, sa, ea, sm, ln, fi, fk, fo, op, ni, ns, ev, cu, wa, fr, oo)) hE hr hlk hK hh dX0_stateOf_24 ?_
      exact ⟨rfl, by omega, by omega⟩
    · refine zv_iconst hE dX0_stateOf_19 ?_
      refine lv_goto (tgt := 24) hE.1 hE.2 dX0_stateOf_20 (by decide) ?_
      refine mc_ret (u := (ky, wt, sa, ea, sm, ln, fi, fk, fo, op, ni, ns, ev, cu, wa, fr, oo)) hE hr hlk hK hh dX0_stateOf_24 ?_
      exact ⟨rfl, by omega, by omega⟩
  · refine zv_iconst hE dX0_stateOf_8 ?_
    refine mc_ret (u := (ky, wt, sa, ea, sm, ln, fi, fk, fo, op, ni, ns, ev, cu, wa, fr, oo)) hE hr hlk hK hh dX0_stateOf_9 ?_
    exact ⟨rfl, by omega, by omega⟩
set_option maxHeartbeats 400000 in
set_option maxRecDepth 100000 in
theorem kX_leastFreeNumber (l : Launch) (dC : Nat → ClassId) (dI : Nat → Nat → Nat) (q : Nat → Nat) (cA : Nat → ClassId) (ky wt sa ea sm ln fi fk fo op : Int → Int) (ni ns ev cu wa fr oo : Int) (hs : ∀ j : Int, 0 ≤ j → j < 600 → zr_ (sa j)) : mc_i l (dC, dI) vwCl (tX_ cA) (wX_ q cA) yX0_leastFreeNumber wsX0_leastFreeNumber ({ frames := 0, cells := 0, slots := 0, locals := 0 }) (ky, wt, sa, ea, sm, ln, fi, fk, fo, op, ni, ns, ev, cu, wa, fr, oo) [.ref (q 0)] (fun (z : Int) (u : SX_) => u = (ky, wt, sa, ea, sm, ln, fi, fk, fo, op, ni, ns, ev, cu, wa, fr, oo) ∧ ((z = -1 ∧ ∀ j : Int, 0 ≤ j → j < 600 → sa j ≠ -1) ∨ (0 ≤ z ∧ z < 600 ∧ sa z = -1 ∧ ∀ j : Int, 0 ≤ j → j < z → sa j ≠ -1))) := by
  refine mc_i_of (cc := cX0_leastFreeNumber) (maxL := 2) (ret := (some .int)) (by decide) rfl (Nat.le_of_ble_eq_true rfl) ?_
  intro p e s m below meth c A ls hE hml hown hts hr hlk hA hK hh hl
  have hown : s.vm.findClass RX0 = some m.cls := hown
  have hX : ∀ w ∈ wsX_, w.before _ s = true := fun w h => hts w (List.mem_cons_of_mem _ h)
  have hl : lv_has ls 2 [(0, .ref (q 0))] := hl
  have loop_2 : ∀ (n : Nat) (i : Int), (0 ≤ i) → (i ≤ 600) → (600 - i < (n : Int)) → (∀ j : Int, 0 ≤ j → j < i → sa j ≠ -1) → ∀ (H : Heap) (locs : List Loc), hp_ (dC, dI) vwCl A s.heap (wX_ q cA (ky, wt, sa, ea, sm, ln, fi, fk, fo, op, ni, ns, ev, cu, wa, fr, oo)) H locs → ∀ (ls : Array Slot), lv_has ls 2 [(1, .int (zi_ i)), (0, .ref (q 0))] → W p l e ({ frames := 0, cells := 0, slots := 0, locals := 0 }) s m ([.ref (q 0)] : List Value).toArray below meth c H locs 0 0 (MQ below (mc_Qi (dC, dI) vwCl (tX_ cA) (wX_ q cA) (fun (z : Int) (u : SX_) => u = (ky, wt, sa, ea, sm, ln, fi, fk, fo, op, ni, ns, ev, cu, wa, fr, oo) ∧ ((z = -1 ∧ ∀ j : Int, 0 ≤ j → j < 600 → sa j ≠ -1) ∨ (0 ≤ z ∧ z < 600 ∧ sa z = -1 ∧ ∀ j : Int, 0 ≤ j → j < z → sa j ≠ -1))) A) ([.ref (q 0)] : List Value).toArray s 0 0 A) (F0 m 2 ls []) := by
    intro n
    induction n with
    | zero => intros; exfalso; omega
    | succ n ih =>
      intro i h0 h1 hn hj H locs hh ls hl
      have hsi : i < 600 → zr_ (sa i) := fun z => hs i h0 z
      refine lv_iload_n hE.1 hE.2 dX0_leastFreeNumber_2 rfl (lv_at hl 0 rfl) ?_
      refine zv_sipush hE dX0_leastFreeNumber_3 (by decide) ?_
      refine zv_icmp_ge (tgt := 27) hE dX0_leastFreeNumber_6 (by decide) ⟨by omega, by omega⟩ ⟨by omega, by omega⟩ (fun hc_1 => ?_) (fun hc_1 => ?_)
      · refine zv_iconst hE dX0_leastFreeNumber_27 ?_
        refine mc_ret (u := (ky, wt, sa, ea, sm, ln, fi, fk, fo, op, ni, ns, ev, cu, wa, fr, oo)) hE hr hlk hK hh dX0_leastFreeNumber_28 ?_
        refine ⟨rfl, ?_⟩
        first | exact Or.inr ⟨by omega, by omega, by omega, hj⟩ | exact Or.inl ⟨by omega, fun j x y => hj j x (by omega)⟩
      · refine lv_aload_n hE.1 hE.2 dX0_leastFreeNumber_9 rfl (lv_at hl 1 rfl) ?_
        refine gX_startAt hE hX hown hK hh dX0_leastFreeNumber_10 ?_
        refine lv_iload_n hE.1 hE.2 dX0_leastFreeNumber_13 rfl (lv_at hl 0 rfl) ?_
        refine rX_startAt hE hK hh ⟨by omega, by omega⟩ dX0_leastFreeNumber_14 ?_
        refine zv_iconst hE dX0_leastFreeNumber_15 ?_
        refine zv_icmp_ne (tgt := 21) hE dX0_leastFreeNumber_16 (by decide) ⟨by omega, by omega⟩ ⟨by omega, by omega⟩ (fun hc_2 => ?_) (fun hc_2 => ?_)
        · refine zv_iinc (lv' := [(1, .int (zi_ (i + 1))), (0, .ref (q 0))]) hE dX0_leastFreeNumber_21 hl (k := 0) rfl (by decide) rfl (fun ls hl => ?_)
          refine lv_goto (tgt := 2) hE.1 hE.2 dX0_leastFreeNumber_24 (by decide) ?_
          exact ih (i + 1) (by omega) (by omega) (by omega) (fun j x y => if hq : j = i then (by rw [hq]; assumption) else hj j x (by omega)) _ _ hh ls (lv_sub hl [0, 1] rfl)
        · refine lv_iload_n hE.1 hE.2 dX0_leastFreeNumber_19 rfl (lv_at hl 0 rfl) ?_
          refine mc_ret (u := (ky, wt, sa, ea, sm, ln, fi, fk, fo, op, ni, ns, ev, cu, wa, fr, oo)) hE hr hlk hK hh dX0_leastFreeNumber_20 ?_
          refine ⟨rfl, ?_⟩
          first | exact Or.inr ⟨by omega, by omega, by omega, hj⟩ | exact Or.inl ⟨by omega, fun j x y => hj j x (by omega)⟩
  refine zv_iconst hE dX0_leastFreeNumber_0 ?_
  refine lv_istore_n (lv' := [(1, .int (zi_ 0)), (0, .ref (q 0))]) hE.1 hE.2 dX0_leastFreeNumber_1 rfl hl (by decide) rfl (fun ls hl => ?_)
  exact loop_2 601 0 (by omega) (by omega) (by omega) (fun j x y => by omega) _ _ hh ls (lv_sub hl [0, 1] rfl)
set_option maxHeartbeats 400000 in
set_option maxRecDepth 100000 in
theorem kX_setPlace (l : Launch) (dC : Nat → ClassId) (dI : Nat → Nat → Nat) (q : Nat → Nat) (cA : Nat → ClassId) (ky wt sa ea sm ln fi fk fo op : Int → Int) (ni ns ev cu wa fr oo : Int) (e1 pl : Int) (h0 : 0 ≤ e1) (h1 : e1 < 1200) (h2 : 0 ≤ pl) (h3 : pl < 1200) : mc_v l (dC, dI) vwCl (tX_ cA) (wX_ q cA) yX0_setPlace wsX0_setPlace ({ frames := 1, cells := 0, slots := 0, locals := 40 }) (ky, wt, sa, ea, sm, ln, fi, fk, fo, op, ni, ns, ev, cu, wa, fr, oo) [.ref (q 0), .int (zi_ e1), .int (zi_ pl)] (fun (u : SX_) => (e1 % 2 = 0 ∧ u = (ky, wt, up_ sa (e1 / 2) pl, ea, sm, up_ ln pl e1, fi, fk, fo, op, ni, ns, ev, cu, wa, fr, oo)) ∨ (e1 % 2 = 1 ∧ u = (ky, wt, sa, up_ ea (e1 / 2) pl, sm, up_ ln pl e1, fi, fk, fo, op, ni, ns, ev, cu, wa, fr, oo))) := by
  refine mc_v_of (cc := cX0_setPlace) (maxL := 3) (ret := none) (by decide) rfl (Nat.le_of_ble_eq_true rfl) ?_
  intro p e s m below meth c A ls hE hml hown hts hr hlk hA hK hh hl
  have hown : s.vm.findClass RX0 = some m.cls := hown
  have hX : ∀ w ∈ wsX_, w.before _ s = true := fun w h => hts w (List.mem_cons_of_mem _ h)
  have hl : lv_has ls 3 [(0, .ref (q 0)), (1, .int (zi_ e1)), (2, .int (zi_ pl))] := hl
  refine lv_aload_n hE.1 hE.2 dX0_setPlace_0 rfl (lv_at hl 0 rfl) ?_
  refine gX_line hE hX hown hK hh dX0_setPlace_1 ?_
  refine lv_iload_n hE.1 hE.2 dX0_setPlace_4 rfl (lv_at hl 2 rfl) ?_
  refine lv_iload_n hE.1 hE.2 dX0_setPlace_5 rfl (lv_at hl 1 rfl) ?_
  refine sX_line hE hK hh ⟨by omega, by omega⟩ dX0_setPlace_6 (fun H locs hh => ?_)
  refine lv_iload_n hE.1 hE.2 dX0_setPlace_7 rfl (lv_at hl 1 rfl) ?_
  refine mc_calls (rest := []) (As := [.int (zi_ e1)]) hE hml hown hX hA hh (kX_isStart l e1 (by omega) (by omega)) (cwS 1 hX qX_isStart rfl rfl rfl (by decide +kernel) ⟨Nat.le_of_ble_eq_true rfl, Nat.le_of_ble_eq_true rfl⟩) hl.1 rfl (Nat.le_of_ble_eq_true rfl) dX0_setPlace_8 ⟨Nat.zero_le _, Nat.zero_le _⟩ rfl (fun z_2 H locs hq_1 hh => ?_)
  have hq_1z : zr_ z_2 := ⟨by omega, by omega⟩
  refine zv_if_eq (tgt := 26) hE dX0_setPlace_11 (by decide) ⟨by omega, by omega⟩ (fun hc_3 => ?_) (fun hc_3 => ?_)
  · refine lv_aload_n hE.1 hE.2 dX0_setPlace_26 rfl (lv_at hl 0 rfl) ?_
    refine gX_endAt hE hX hown hK hh dX0_setPlace_27 ?_
    refine lv_iload_n hE.1 hE.2 dX0_setPlace_30 rfl (lv_at hl 1 rfl) ?_
    refine zv_iconst hE dX0_setPlace_31 ?_
    refine zv_half hE ⟨by omega, by omega⟩ dX0_setPlace_32 ?_
    refine lv_iload_n hE.1 hE.2 dX0_setPlace_33 rfl (lv_at hl 2 rfl) ?_
    refine sX_endAt hE hK hh ⟨by omega, by omega⟩ dX0_setPlace_34 (fun H locs hh => ?_)
    refine mc_retv (u := (ky, wt, sa, up_ ea (e1 / 2) pl, sm, up_ ln pl e1, fi, fk, fo, op, ni, ns, ev, cu, wa, fr, oo)) hE hr hlk hK hh dX0_setPlace_35 ?_
    first | exact Or.inl ⟨by omega, rfl⟩ | exact Or.inr ⟨by omega, rfl⟩
  · refine lv_aload_n hE.1 hE.2 dX0_setPlace_14 rfl (lv_at hl 0 rfl) ?_
    refine gX_startAt hE hX hown hK hh dX0_setPlace_15 ?_
    refine lv_iload_n hE.1 hE.2 dX0_setPlace_18 rfl (lv_at hl 1 rfl) ?_
    refine zv_iconst hE dX0_setPlace_19 ?_
    refine zv_half hE ⟨by omega, by omega⟩ dX0_setPlace_20 ?_
    refine lv_iload_n hE.1 hE.2 dX0_setPlace_21 rfl (lv_at hl 2 rfl) ?_
    refine sX_startAt hE hK hh ⟨by omega, by omega⟩ dX0_setPlace_22 (fun H locs hh => ?_)
    refine lv_goto (tgt := 35) hE.1 hE.2 dX0_setPlace_23 (by decide) ?_
    refine mc_retv (u := (ky, wt, up_ sa (e1 / 2) pl, ea, sm, up_ ln pl e1, fi, fk, fo, op, ni, ns, ev, cu, wa, fr, oo)) hE hr hlk hK hh dX0_setPlace_35 ?_
    first | exact Or.inl ⟨by omega, rfl⟩ | exact Or.inr ⟨by omega, rfl⟩
set_option maxHeartbeats 400000 in
set_option maxRecDepth 100000 in
theorem kX_forget (l : Launch) (dC : Nat → ClassId) (dI : Nat → Nat → Nat) (q : Nat → Nat) (cA : Nat → ClassId) (ky wt sa ea sm ln fi fk fo op : Int → Int) (ni ns ev cu wa fr oo : Int) (i : Int) (h0 : 0 ≤ i) (h1 : i < 600) (hs : zr_ (sa i)) (hm : sm i = 0 ∨ sm i = 1) : mc_v l (dC, dI) vwCl (tX_ cA) (wX_ q cA) yX0_forget wsX0_forget ({ frames := 1, cells := 0, slots := 0, locals := 40 }) (ky, wt, sa, ea, sm, ln, fi, fk, fo, op, ni, ns, ev, cu, wa, fr, oo) [.ref (q 0), .int (zi_ i)] (fun (u : SX_) => (sa i = -1 ∧ u = (ky, wt, sa, ea, sm, ln, fi, fk, fo, op, ni, ns, ev, cu, wa, fr, oo)) ∨ (sa i ≠ -1 ∧ u = (ky, wt, up_ sa i (-1), ea, sm, ln, fi, fk, fo, op, ni - 1, ns - sm i, ev, cu, wa - wt i, fr, oo))) := by
  refine mc_v_of (cc := cX0_forget) (maxL := 2) (ret := none) (by decide) rfl (Nat.le_of_ble_eq_true rfl) ?_
  intro p e s m below meth c A ls hE hml hown hts hr hlk hA hK hh hl
  have hown : s.vm.findClass RX0 = some m.cls := hown
  have hX : ∀ w ∈ wsX_, w.before _ s = true := fun w h => hts w (List.mem_cons_of_mem _ h)
  have hl : lv_has ls 2 [(0, .ref (q 0)), (1, .int (zi_ i))] := hl
  refine lv_aload_n hE.1 hE.2 dX0_forget_0 rfl (lv_at hl 0 rfl) ?_
  refine lv_iload_n hE.1 hE.2 dX0_forget_1 rfl (lv_at hl 1 rfl) ?_
  refine mc_call (rest := []) (As := [.int (zi_ i)]) hE hml hown hX hA hK hh (kX_isThere l dC dI q cA ky wt sa ea sm ln fi fk fo op ni ns ev cu wa fr oo i (by first | assumption | exact ⟨by omega, by omega⟩) (by first | assumption | (intros; exact ⟨by omega, by omega⟩))) (cwV 1 hX qX_isThere rfl rfl rfl (by decide +kernel) ⟨Nat.le_of_ble_eq_true rfl, Nat.le_of_ble_eq_true rfl⟩) rfl rfl hl.1 rfl (Nat.le_of_ble_eq_true rfl) dX0_forget_2 ⟨Nat.zero_le _, Nat.zero_le _⟩ rfl (fun z_2 u H locs hq_1 hh => ?_)
  obtain ⟨rfl, hq_1⟩ := hq_1
  refine zv_if_ne (tgt := 9) hE dX0_forget_5 (by decide) ⟨by omega, by omega⟩ (fun hc_3 => ?_) (fun hc_3 => ?_)
  · refine lv_aload_n hE.1 hE.2 dX0_forget_9 rfl (lv_at hl 0 rfl) ?_
    refine gX_staleMark hE hX hown hK hh dX0_forget_10 ?_
    refine lv_iload_n hE.1 hE.2 dX0_forget_13 rfl (lv_at hl 1 rfl) ?_
    refine rX_staleMark hE hK hh ⟨by omega, by omega⟩ dX0_forget_14 ?_
    refine zv_if_eq (tgt := 28) hE dX0_forget_15 (by decide) ⟨by omega, by omega⟩ (fun hc_4 => ?_) (fun hc_4 => ?_)
    · refine lv_aload_n hE.1 hE.2 dX0_forget_28 rfl (lv_at hl 0 rfl) ?_
      refine lv_dup hE.1 hE.2 dX0_forget_29 rfl ?_
      refine gX_weightInAll hE hX hown hK hh dX0_forget_30 ?_
      refine lv_aload_n hE.1 hE.2 dX0_forget_33 rfl (lv_at hl 0 rfl) ?_
      refine gX_weights hE hX hown hK hh dX0_forget_34 ?_
      refine lv_iload_n hE.1 hE.2 dX0_forget_37 rfl (lv_at hl 1 rfl) ?_
      refine rX_weights hE hK hh ⟨by omega, by omega⟩ dX0_forget_38 ?_
      refine zv_isub hE dX0_forget_39 ?_
      refine pX_weightInAll hE hX hown hK hh dX0_forget_40 (fun H locs hh => ?_)
      refine lv_aload_n hE.1 hE.2 dX0_forget_43 rfl (lv_at hl 0 rfl) ?_
      refine gX_startAt hE hX hown hK hh dX0_forget_44 ?_
      refine lv_iload_n hE.1 hE.2 dX0_forget_47 rfl (lv_at hl 1 rfl) ?_
      refine zv_iconst hE dX0_forget_48 ?_
      refine sX_startAt hE hK hh ⟨by omega, by omega⟩ dX0_forget_49 (fun H locs hh => ?_)
      refine lv_aload_n hE.1 hE.2 dX0_forget_50 rfl (lv_at hl 0 rfl) ?_
      refine lv_dup hE.1 hE.2 dX0_forget_51 rfl ?_
      refine gX_intervals hE hX hown hK hh dX0_forget_52 ?_
      refine zv_iconst hE dX0_forget_55 ?_
      refine zv_isub hE dX0_forget_56 ?_
      refine pX_intervals hE hX hown hK hh dX0_forget_57 (fun H locs hh => ?_)
      refine mc_retv (u := (ky, wt, up_ sa i (-1), ea, sm, ln, fi, fk, fo, op, ni - 1, ns, ev, cu, wa - (wt i), fr, oo)) hE hr hlk hK hh dX0_forget_60 ?_
      first | exact Or.inl ⟨by omega, rfl⟩ | exact Or.inr ⟨by omega, by rw [show sm i = 1 by omega]⟩ | exact Or.inr ⟨by omega, by rw [show sm i = 0 by omega, Int.sub_zero]⟩
    · refine lv_aload_n hE.1 hE.2 dX0_forget_18 rfl (lv_at hl 0 rfl) ?_
      refine lv_dup hE.1 hE.2 dX0_forget_19 rfl ?_
      refine gX_staleOnes hE hX hown hK hh dX0_forget_20 ?_
      refine zv_iconst hE dX0_forget_23 ?_
      refine zv_isub hE dX0_forget_24 ?_
      refine pX_staleOnes hE hX hown hK hh dX0_forget_25 (fun H locs hh => ?_)
      refine lv_aload_n hE.1 hE.2 dX0_forget_28 rfl (lv_at hl 0 rfl) ?_
      refine lv_dup hE.1 hE.2 dX0_forget_29 rfl ?_
      refine gX_weightInAll hE hX hown hK hh dX0_forget_30 ?_
      refine lv_aload_n hE.1 hE.2 dX0_forget_33 rfl (lv_at hl 0 rfl) ?_
      refine gX_weights hE hX hown hK hh dX0_forget_34 ?_
      refine lv_iload_n hE.1 hE.2 dX0_forget_37 rfl (lv_at hl 1 rfl) ?_
      refine rX_weights hE hK hh ⟨by omega, by omega⟩ dX0_forget_38 ?_
      refine zv_isub hE dX0_forget_39 ?_
      refine pX_weightInAll hE hX hown hK hh dX0_forget_40 (fun H locs hh => ?_)
      refine lv_aload_n hE.1 hE.2 dX0_forget_43 rfl (lv_at hl 0 rfl) ?_
      refine gX_startAt hE hX hown hK hh dX0_forget_44 ?_
      refine lv_iload_n hE.1 hE.2 dX0_forget_47 rfl (lv_at hl 1 rfl) ?_
      refine zv_iconst hE dX0_forget_48 ?_
      refine sX_startAt hE hK hh ⟨by omega, by omega⟩ dX0_forget_49 (fun H locs hh => ?_)
      refine lv_aload_n hE.1 hE.2 dX0_forget_50 rfl (lv_at hl 0 rfl) ?_
      refine lv_dup hE.1 hE.2 dX0_forget_51 rfl ?_
      refine gX_intervals hE hX hown hK hh dX0_forget_52 ?_
      refine zv_iconst hE dX0_forget_55 ?_
      refine zv_isub hE dX0_forget_56 ?_
      refine pX_intervals hE hX hown hK hh dX0_forget_57 (fun H locs hh => ?_)
      refine mc_retv (u := (ky, wt, up_ sa i (-1), ea, sm, ln, fi, fk, fo, op, ni - 1, ns - 1, ev, cu, wa - (wt i), fr, oo)) hE hr hlk hK hh dX0_forget_60 ?_
      first | exact Or.inl ⟨by omega, rfl⟩ | exact Or.inr ⟨by omega, by rw [show sm i = 1 by omega]⟩ | exact Or.inr ⟨by omega, by rw [show sm i = 0 by omega, Int.sub_zero]⟩
  · refine mc_retv (u := (ky, wt, sa, ea, sm, ln, fi, fk, fo, op, ni, ns, ev, cu, wa, fr, oo)) hE hr hlk hK hh dX0_forget_8 ?_
    first | exact Or.inl ⟨by omega, rfl⟩ | exact Or.inr ⟨by omega, by rw [show sm i = 1 by omega]⟩ | exact Or.inr ⟨by omega, by rw [show sm i = 0 by omega, Int.sub_zero]⟩
end
section
set_option maxHeartbeats 400000 in
set_option maxRecDepth 100000 in
theorem kX_putAtCursor (l : Launch) (dC : Nat → ClassId) (dI : Nat → Nat → Nat) (q : Nat → Nat) (cA : Nat → ClassId) (ky wt sa ea sm ln fi fk fo op : Int → Int) (ni ns ev cu wa fr oo : Int) (e1 : Int) (h0 : 0 ≤ e1) (h1 : e1 < 1200) (hw : pw_ sa ea ln ev) (h2 : ev < 1200) (h3 : 0 ≤ cu) (h4 : cu ≤ ev) : mc_v l (dC, dI) vwCl (tX_ cA) (wX_ q cA) yX0_putAtCursor wsX0_putAtCursor ({ frames := 2, cells := 0, slots := 0, locals := 80 }) (ky, wt, sa, ea, sm, ln, fi, fk, fo, op, ni, ns, ev, cu, wa, fr, oo) [.ref (q 0), .int (zi_ e1)] (fun (u : SX_) => ∃ sa1 ea1 ln1 : Int → Int, pu_ sa ea ln ev cu sa1 ea1 ln1 ∧ ((e1 % 2 = 0 ∧ u = (ky, wt, up_ sa1 (e1 / 2) cu, ea1, sm, up_ ln1 cu e1, fi, fk, fo, op, ni, ns, ev + 1, cu + 1, wa, fr, oo)) ∨ (e1 % 2 = 1 ∧ u = (ky, wt, sa1, up_ ea1 (e1 / 2) cu, sm, up_ ln1 cu e1, fi, fk, fo, op, ni, ns, ev + 1, cu + 1, wa, fr, oo)))) := by
  refine mc_v_of (cc := cX0_putAtCursor) (maxL := 3) (ret := none) (by decide) rfl (Nat.le_of_ble_eq_true rfl) ?_
  intro p e s m below meth c A ls hE hml hown hts hr hlk hA hK hh hl
  have hown : s.vm.findClass RX0 = some m.cls := hown
  have hX : ∀ w ∈ wsX_, w.before _ s = true := fun w h => hts w (List.mem_cons_of_mem _ h)
  have hl : lv_has ls 3 [(0, .ref (q 0)), (1, .int (zi_ e1))] := hl
  have loop_16 : ∀ (n : Nat) (pl : Int) (sa1 ea1 ln1 : Int → Int), (cu ≤ pl) → (pl ≤ ev) → (pl - cu < (n : Int)) → (pu_ sa ea ln ev pl sa1 ea1 ln1) → ∀ (H : Heap) (locs : List Loc), hp_ (dC, dI) vwCl A s.heap (wX_ q cA (ky, wt, sa1, ea1, sm, ln1, fi, fk, fo, op, ni, ns, ev, cu, wa, fr, oo)) H locs → ∀ (ls : Array Slot), lv_has ls 3 [(2, .int (zi_ pl)), (1, .int (zi_ e1)), (0, .ref (q 0))] → W p l e ({ frames := 2, cells := 0, slots := 0, locals := 80 }) s m ([.ref (q 0), .int (zi_ e1)] : List Value).toArray below meth c H locs 0 0 (MQ below (mc_Qv (dC, dI) vwCl (tX_ cA) (wX_ q cA) (fun (u : SX_) => ∃ sa1 ea1 ln1 : Int → Int, pu_ sa ea ln ev cu sa1 ea1 ln1 ∧ ((e1 % 2 = 0 ∧ u = (ky, wt, up_ sa1 (e1 / 2) cu, ea1, sm, up_ ln1 cu e1, fi, fk, fo, op, ni, ns, ev + 1, cu + 1, wa, fr, oo)) ∨ (e1 % 2 = 1 ∧ u = (ky, wt, sa1, up_ ea1 (e1 / 2) cu, sm, up_ ln1 cu e1, fi, fk, fo, op, ni, ns, ev + 1, cu + 1, wa, fr, oo)))) A) ([.ref (q 0), .int (zi_ e1)] : List Value).toArray s 0 0 A) (F0 m 16 ls []) := by
    intro n
    induction n with
    | zero => intros; exfalso; omega
    | succ n ih =>
      intro pl sa1 ea1 ln1 g0 g1 hn hpu H locs hh ls hl
      have hpu9 : pl = cu → pu_ sa ea ln ev cu sa1 ea1 ln1 := fun z => z ▸ hpu
      refine lv_iload_n hE.1 hE.2 dX0_putAtCursor_16 rfl (lv_at hl 0 rfl) ?_
      refine lv_aload_n hE.1 hE.2 dX0_putAtCursor_17 rfl (lv_at hl 2 rfl) ?_
      refine gX_cursor hE hX hown hK hh dX0_putAtCursor_18 ?_
      refine zv_icmp_le (tgt := 43) hE dX0_putAtCursor_21 (by decide) ⟨by omega, by omega⟩ ⟨by omega, by omega⟩ (fun hc_1 => ?_) (fun hc_1 => ?_)
      · refine lv_aload_n hE.1 hE.2 dX0_putAtCursor_43 rfl (lv_at hl 2 rfl) ?_
        refine lv_iload_n hE.1 hE.2 dX0_putAtCursor_44 rfl (lv_at hl 1 rfl) ?_
        refine lv_aload_n hE.1 hE.2 dX0_putAtCursor_45 rfl (lv_at hl 2 rfl) ?_
        refine gX_cursor hE hX hown hK hh dX0_putAtCursor_46 ?_
        refine mc_callv (rest := []) (As := [.int (zi_ e1), .int (zi_ cu)]) hE hml hown hX hA hK hh (kX_setPlace l dC dI q cA ky wt sa1 ea1 sm ln1 fi fk fo op ni ns ev cu wa fr oo e1 cu (by omega) (by omega) (by omega) (by omega)) (cwV 2 hX qX_setPlace rfl rfl rfl (by decide +kernel) ⟨Nat.le_of_ble_eq_true rfl, Nat.le_of_ble_eq_true rfl⟩) rfl rfl hl.1 rfl (Nat.le_of_ble_eq_true rfl) dX0_putAtCursor_49 ⟨Nat.zero_le _, Nat.zero_le _⟩ rfl (fun u H locs hq_2 hh => ?_)
        rcases hq_2 with ⟨hq_2e, rfl⟩ | ⟨hq_2e, rfl⟩
        · refine lv_aload_n hE.1 hE.2 dX0_putAtCursor_52 rfl (lv_at hl 2 rfl) ?_
          refine lv_dup hE.1 hE.2 dX0_putAtCursor_53 rfl ?_
          refine gX_events hE hX hown hK hh dX0_putAtCursor_54 ?_
          refine zv_iconst hE dX0_putAtCursor_57 ?_
          refine zv_iadd hE dX0_putAtCursor_58 ?_
          refine pX_events hE hX hown hK hh dX0_putAtCursor_59 (fun H locs hh => ?_)
          refine lv_aload_n hE.1 hE.2 dX0_putAtCursor_62 rfl (lv_at hl 2 rfl) ?_
          refine lv_dup hE.1 hE.2 dX0_putAtCursor_63 rfl ?_
          refine gX_cursor hE hX hown hK hh dX0_putAtCursor_64 ?_
          refine zv_iconst hE dX0_putAtCursor_67 ?_
          refine zv_iadd hE dX0_putAtCursor_68 ?_
          refine pX_cursor hE hX hown hK hh dX0_putAtCursor_69 (fun H locs hh => ?_)
          refine mc_retv (u := (ky, wt, up_ sa1 (e1 / 2) cu, ea1, sm, up_ ln1 cu e1, fi, fk, fo, op, ni, ns, ev + 1, cu + 1, wa, fr, oo)) hE hr hlk hK hh dX0_putAtCursor_72 ?_
          first | exact absurd h2 (by omega) | exact ⟨sa1, ea1, ln1, hpu9 (by omega), Or.inl ⟨by omega, rfl⟩⟩ | exact ⟨sa1, ea1, ln1, hpu9 (by omega), Or.inr ⟨by omega, rfl⟩⟩
        · refine lv_aload_n hE.1 hE.2 dX0_putAtCursor_52 rfl (lv_at hl 2 rfl) ?_
          refine lv_dup hE.1 hE.2 dX0_putAtCursor_53 rfl ?_
          refine gX_events hE hX hown hK hh dX0_putAtCursor_54 ?_
          refine zv_iconst hE dX0_putAtCursor_57 ?_
          refine zv_iadd hE dX0_putAtCursor_58 ?_
          refine pX_events hE hX hown hK hh dX0_putAtCursor_59 (fun H locs hh => ?_)
          refine lv_aload_n hE.1 hE.2 dX0_putAtCursor_62 rfl (lv_at hl 2 rfl) ?_
          refine lv_dup hE.1 hE.2 dX0_putAtCursor_63 rfl ?_
          refine gX_cursor hE hX hown hK hh dX0_putAtCursor_64 ?_
          refine zv_iconst hE dX0_putAtCursor_67 ?_
          refine zv_iadd hE dX0_putAtCursor_68 ?_
          refine pX_cursor hE hX hown hK hh dX0_putAtCursor_69 (fun H locs hh => ?_)
          refine mc_retv (u := (ky, wt, sa1, up_ ea1 (e1 / 2) cu, sm, up_ ln1 cu e1, fi, fk, fo, op, ni, ns, ev + 1, cu + 1, wa, fr, oo)) hE hr hlk hK hh dX0_putAtCursor_72 ?_
          first | exact absurd h2 (by omega) | exact ⟨sa1, ea1, ln1, hpu9 (by omega), Or.inl ⟨by omega, rfl⟩⟩ | exact ⟨sa1, ea1, ln1, hpu9 (by omega), Or.inr ⟨by omega, rfl⟩⟩
      · refine lv_aload_n hE.1 hE.2 dX0_putAtCursor_24 rfl (lv_at hl 2 rfl) ?_
        refine lv_aload_n hE.1 hE.2 dX0_putAtCursor_25 rfl (lv_at hl 2 rfl) ?_
        refine gX_line hE hX hown hK hh dX0_putAtCursor_26 ?_
        refine lv_iload_n hE.1 hE.2 dX0_putAtCursor_29 rfl (lv_at hl 0 rfl) ?_
        refine zv_iconst hE dX0_putAtCursor_30 ?_
        refine zv_isub hE dX0_putAtCursor_31 ?_
        have hx1 := hpu.2.1 (pl - 1) (by omega)
        have hx2 := hw.2.2.2 (pl - 1) (by omega) (by omega)
        refine rX_line hE hK hh ⟨by omega, by omega⟩ dX0_putAtCursor_32 ?_
        refine lv_iload_n hE.1 hE.2 dX0_putAtCursor_33 rfl (lv_at hl 0 rfl) ?_
        refine mc_callv (rest := []) (As := [.int (zi_ (ln1 (pl - 1))), .int (zi_ pl)]) hE hml hown hX hA hK hh (kX_setPlace l dC dI q cA ky wt sa1 ea1 sm ln1 fi fk fo op ni ns ev cu wa fr oo (ln1 (pl - 1)) pl (by omega) (by omega) (by omega) (by omega)) (cwV 2 hX qX_setPlace rfl rfl rfl (by decide +kernel) ⟨Nat.le_of_ble_eq_true rfl, Nat.le_of_ble_eq_true rfl⟩) rfl rfl hl.1 rfl (Nat.le_of_ble_eq_true rfl) dX0_putAtCursor_34 ⟨Nat.zero_le _, Nat.zero_le _⟩ rfl (fun u H locs hq_4 hh => ?_)
        rcases hq_4 with ⟨hq_4e, rfl⟩ | ⟨hq_4e, rfl⟩
        · refine zv_iinc (lv' := [(2, .int (zi_ (pl + (-1)))), (1, .int (zi_ e1)), (0, .ref (q 0))]) hE dX0_putAtCursor_37 hl (k := 0) rfl (by decide) rfl (fun ls hl => ?_)
          refine lv_goto (tgt := 16) hE.1 hE.2 dX0_putAtCursor_40 (by decide) ?_
          exact ih (pl - 1) (up_ sa1 ((ln1 (pl - 1)) / 2) pl) ea1 (up_ ln1 pl (ln1 (pl - 1))) (by omega) (by omega) (by omega) (by first | exact pu_even hw hpu (by omega) (by omega) (by assumption) | exact pu_odd hw hpu (by omega) (by omega) (by assumption)) _ _ hh ls (lv_sub hl [0, 1, 2] rfl)
        · refine zv_iinc (lv' := [(2, .int (zi_ (pl + (-1)))), (1, .int (zi_ e1)), (0, .ref (q 0))]) hE dX0_putAtCursor_37 hl (k := 0) rfl (by decide) rfl (fun ls hl => ?_)
          refine lv_goto (tgt := 16) hE.1 hE.2 dX0_putAtCursor_40 (by decide) ?_
          exact ih (pl - 1) sa1 (up_ ea1 ((ln1 (pl - 1)) / 2) pl) (up_ ln1 pl (ln1 (pl - 1))) (by omega) (by omega) (by omega) (by first | exact pu_even hw hpu (by omega) (by omega) (by assumption) | exact pu_odd hw hpu (by omega) (by omega) (by assumption)) _ _ hh ls (lv_sub hl [0, 1, 2] rfl)
  refine lv_aload_n hE.1 hE.2 dX0_putAtCursor_0 rfl (lv_at hl 0 rfl) ?_
  refine gX_events hE hX hown hK hh dX0_putAtCursor_1 ?_
  refine zv_sipush hE dX0_putAtCursor_4 (by decide) ?_
  refine zv_icmp_lt (tgt := 11) hE dX0_putAtCursor_7 (by decide) ⟨by omega, by omega⟩ ⟨by omega, by omega⟩ (fun hc_6 => ?_) (fun hc_6 => ?_)
  · refine lv_aload_n hE.1 hE.2 dX0_putAtCursor_11 rfl (lv_at hl 0 rfl) ?_
    refine gX_events hE hX hown hK hh dX0_putAtCursor_12 ?_
    refine lv_istore_n (lv' := [(2, .int (zi_ ev)), (0, .ref (q 0)), (1, .int (zi_ e1))]) hE.1 hE.2 dX0_putAtCursor_15 rfl hl (by decide) rfl (fun ls hl => ?_)
    exact loop_16 1300 ev sa ea ln (by omega) (by omega) (by omega) (pu_0 hw) _ _ hh ls (lv_sub hl [0, 2, 1] rfl)
  · refine mc_retv (u := (ky, wt, sa, ea, sm, ln, fi, fk, fo, op, ni, ns, ev, cu, wa, fr, oo)) hE hr hlk hK hh dX0_putAtCursor_10 ?_
    first | exact absurd h2 (by omega) | exact ⟨sa1, ea1, ln1, hpu9 (by omega), Or.inl ⟨by omega, rfl⟩⟩ | exact ⟨sa1, ea1, ln1, hpu9 (by omega), Or.inr ⟨by omega, rfl⟩⟩
set_option maxHeartbeats 400000 in
set_option maxRecDepth 100000 in
theorem kX_erase (l : Launch) (dC : Nat → ClassId) (dI : Nat → Nat → Nat) (q : Nat → Nat) (cA : Nat → ClassId) (ky wt sa ea sm ln fi fk fo op : Int → Int) (ni ns ev cu wa fr oo : Int) (a1 b1 : Int) (K : Int) (hw : pw_ sa ea ln ev) (hct : ct_ sa sm wt ni ns wa K) (hsm : ∀ j : Int, 0 ≤ j → j < 600 → sm j = 0 ∨ sm j = 1) (h0 : 0 ≤ a1) (h1 : a1 ≤ b1) (h2 : b1 ≤ ev) : mc_v l (dC, dI) vwCl (tX_ cA) (wX_ q cA) yX0_erase wsX0_erase ({ frames := 3, cells := 0, slots := 0, locals := 120 }) (ky, wt, sa, ea, sm, ln, fi, fk, fo, op, ni, ns, ev, cu, wa, fr, oo) [.ref (q 0), .int (zi_ a1), .int (zi_ b1)] (fun (u : SX_) => ∃ (sa2 ea2 ln2 : Int → Int) (ni2 ns2 wa2 : Int), er_ sa ea ln ev a1 b1 sa2 ea2 ln2 ∧ ct_ sa2 sm wt ni2 ns2 wa2 K ∧ u = (ky, wt, sa2, ea2, sm, ln2, fi, fk, fo, op, ni2, ns2, rz_ (gp_ ln a1 b1) ev, cu, wa2, fr, oo)) := by
  refine mc_v_of (cc := cX0_erase) (maxL := 5) (ret := none) (by decide) rfl (Nat.le_of_ble_eq_true rfl) ?_
  intro p e s m below meth c A ls hE hml hown hts hr hlk hA hK hh hl
  have hown : s.vm.findClass RX0 = some m.cls := hown
  have hX : ∀ w ∈ wsX_, w.before _ s = true := fun w h => hts w (List.mem_cons_of_mem _ h)
  have hl : lv_has ls 5 [(0, .ref (q 0)), (1, .int (zi_ a1)), (2, .int (zi_ b1))] := hl
  have w1 := hw.1
  have loop_30 : ∀ (n : Nat) (pl kp : Int) (sa1 sa2 ea2 ln2 : Int → Int) (ni1 ns1 wa1 : Int), (0 ≤ pl) → (pl ≤ ev) → (ev - pl < (n : Int)) → (e1_ sa ln a1 b1 sa1) → (ct_ sa1 sm wt ni1 ns1 wa1 K) → (e2_ sa ea ln ev a1 b1 pl sa2 ea2 ln2) → (kp = rz_ (gp_ ln a1 b1) pl) → ∀ (H : Heap) (locs : List Loc), hp_ (dC, dI) vwCl A s.heap (wX_ q cA (ky, wt, sa2, ea2, sm, ln2, fi, fk, fo, op, ni1, ns1, ev, cu, wa1, fr, oo)) H locs → ∀ (ls : Array Slot), lv_has ls 5 [(4, .int (zi_ pl)), (3, .int (zi_ kp)), (0, .ref (q 0))] → W p l e ({ frames := 3, cells := 0, slots := 0, locals := 120 }) s m ([.ref (q 0), .int (zi_ a1), .int (zi_ b1)] : List Value).toArray below meth c H locs 0 0 (MQ below (mc_Qv (dC, dI) vwCl (tX_ cA) (wX_ q cA) (fun (u : SX_) => ∃ (sa2 ea2 ln2 : Int → Int) (ni2 ns2 wa2 : Int), er_ sa ea ln ev a1 b1 sa2 ea2 ln2 ∧ ct_ sa2 sm wt ni2 ns2 wa2 K ∧ u = (ky, wt, sa2, ea2, sm, ln2, fi, fk, fo, op, ni2, ns2, rz_ (gp_ ln a1 b1) ev, cu, wa2, fr, oo)) A) ([.ref (q 0), .int (zi_ a1), .int (zi_ b1)] : List Value).toArray s 0 0 A) (F0 m 30 ls []) := by
    intro n
    induction n with
    | zero => intros; exfalso; omega
    | succ n ih =>
      intro pl kp sa1 sa2 ea2 ln2 ni1 ns1 wa1 g0 g1 hn he1 hct1 he2 hk H locs hh ls hl
      refine lv_iload hE.1 hE.2 dX0_erase_30 (lv_at hl 0 rfl) ?_
      refine lv_aload_n hE.1 hE.2 dX0_erase_32 rfl (lv_at hl 2 rfl) ?_
      refine gX_events hE hX hown hK hh dX0_erase_33 ?_
      refine zv_icmp_ge (tgt := 76) hE dX0_erase_36 (by decide) ⟨by omega, by omega⟩ ⟨by omega, by omega⟩ (fun hc_1 => ?_) (fun hc_1 => ?_)
      · refine lv_aload_n hE.1 hE.2 dX0_erase_76 rfl (lv_at hl 2 rfl) ?_
        refine lv_iload_n hE.1 hE.2 dX0_erase_77 rfl (lv_at hl 1 rfl) ?_
        refine pX_events hE hX hown hK hh dX0_erase_78 (fun H locs hh => ?_)
        refine mc_retv (u := (ky, wt, sa2, ea2, sm, ln2, fi, fk, fo, op, ni1, ns1, kp, cu, wa1, fr, oo)) hE hr hlk hK hh dX0_erase_81 ?_
        have hpl : pl = ev := by omega
        rw [hpl] at he2 hk
        exact ⟨sa2, ea2, ln2, ni1, ns1, wa1, er_of hw he2, er_ct hw he1 hct1 (er_of hw he2), by rw [hk]⟩
      · refine lv_aload_n hE.1 hE.2 dX0_erase_39 rfl (lv_at hl 2 rfl) ?_
        refine lv_aload_n hE.1 hE.2 dX0_erase_40 rfl (lv_at hl 2 rfl) ?_
        refine gX_line hE hX hown hK hh dX0_erase_41 ?_
        refine lv_iload hE.1 hE.2 dX0_erase_44 (lv_at hl 0 rfl) ?_
        have hx1 := he2.1 pl (by omega) (by omega)
        have hx2 := hw.2.2.2 pl (by omega) (by omega)
        have hx3 := e2_zr hw he2 (j := ln2 pl / 2) (by omega) (by omega)
        have hx4 := e2_there hw he2 g0 (by omega)
        have hr0 := rz_nn (gp_ ln a1 b1) g0
        refine rX_line hE hK hh ⟨by omega, by omega⟩ dX0_erase_46 ?_
        refine zv_iconst hE dX0_erase_47 ?_
        refine zv_half hE ⟨by omega, by omega⟩ dX0_erase_48 ?_
        refine mc_call (rest := []) (As := [.int (zi_ ((ln2 pl) / 2))]) hE hml hown hX hA hK hh (kX_isThere l dC dI q cA ky wt sa2 ea2 sm ln2 fi fk fo op ni1 ns1 ev cu wa1 fr oo ((ln2 pl) / 2) (by exact ⟨by omega, by omega⟩) (fun _ _ => hx3)) (cwV 1 hX qX_isThere rfl rfl rfl (by decide +kernel) ⟨Nat.le_of_ble_eq_true rfl, Nat.le_of_ble_eq_true rfl⟩) rfl rfl hl.1 rfl (Nat.le_of_ble_eq_true rfl) dX0_erase_49 ⟨Nat.zero_le _, Nat.zero_le _⟩ rfl (fun z_3 u H locs hq_2 hh => ?_)
        obtain ⟨rfl, hq_2a, hq_2b⟩ := hq_2
        have hq_2z : zr_ z_3 := ⟨by omega, by omega⟩
        rw [hx1] at hq_2a hq_2b
        have hgo : z_3 = 0 → gp_ ln a1 b1 pl := fun h => Classical.byContradiction (fun hn => by have := hq_2a ⟨by omega, by omega, hx4.mpr hn⟩; omega)
        have hst : z_3 ≠ 0 → ¬ gp_ ln a1 b1 pl := fun h hn => by
          have h1 : sa2 (ln pl / 2) = -1 := Decidable.byContradiction (fun h2 => hx4.mp h2 hn)
          have := hq_2b (Or.inr (Or.inr h1))
          omega
        refine zv_if_eq (tgt := 70) hE dX0_erase_52 (by decide) ⟨by omega, by omega⟩ (fun hc_4 => ?_) (fun hc_4 => ?_)
        · refine zv_iinc (lv' := [(4, .int (zi_ (pl + 1))), (3, .int (zi_ kp)), (0, .ref (q 0))]) hE dX0_erase_70 hl (k := 0) rfl (by decide) rfl (fun ls hl => ?_)
          refine lv_goto (tgt := 30) hE.1 hE.2 dX0_erase_73 (by decide) ?_
          exact ih (pl + 1) kp sa1 sa2 ea2 ln2 ni1 ns1 wa1 (by omega) (by omega) (by omega) he1 hct1 (by first | exact (e2_skip hw he2 g0 (by omega) (hgo (by omega))).1 | (rw [hk, hx1]; exact (e2_keep hw he2 g0 (by omega) (hst (by omega))).1 (by omega)) | (rw [hk, hx1]; exact (e2_keep hw he2 g0 (by omega) (hst (by omega))).2.1 (by omega))) (by first | (have := (e2_skip hw he2 g0 (by omega) (hgo (by omega))).2; omega) | (have := (e2_keep hw he2 g0 (by omega) (hst (by omega))).2.2; omega)) _ _ hh ls (lv_sub hl [0, 1, 2] rfl)
        · refine lv_aload_n hE.1 hE.2 dX0_erase_55 rfl (lv_at hl 2 rfl) ?_
          refine lv_aload_n hE.1 hE.2 dX0_erase_56 rfl (lv_at hl 2 rfl) ?_
          refine gX_line hE hX hown hK hh dX0_erase_57 ?_
          refine lv_iload hE.1 hE.2 dX0_erase_60 (lv_at hl 0 rfl) ?_
          refine rX_line hE hK hh ⟨by omega, by omega⟩ dX0_erase_62 ?_
          refine lv_iload_n hE.1 hE.2 dX0_erase_63 rfl (lv_at hl 1 rfl) ?_
          refine mc_callv (rest := []) (As := [.int (zi_ (ln2 pl)), .int (zi_ kp)]) hE hml hown hX hA hK hh (kX_setPlace l dC dI q cA ky wt sa2 ea2 sm ln2 fi fk fo op ni1 ns1 ev cu wa1 fr oo (ln2 pl) kp (by omega) (by omega) (by omega) (by omega)) (cwV 2 hX qX_setPlace rfl rfl rfl (by decide +kernel) ⟨Nat.le_of_ble_eq_true rfl, Nat.le_of_ble_eq_true rfl⟩) rfl rfl hl.1 rfl (Nat.le_of_ble_eq_true rfl) dX0_erase_64 ⟨Nat.zero_le _, Nat.zero_le _⟩ rfl (fun u H locs hq_5 hh => ?_)
          rcases hq_5 with ⟨hq_5e, rfl⟩ | ⟨hq_5e, rfl⟩
          · refine zv_iinc (lv' := [(3, .int (zi_ (kp + 1))), (4, .int (zi_ pl)), (0, .ref (q 0))]) hE dX0_erase_67 hl (k := 1) rfl (by decide) rfl (fun ls hl => ?_)
            refine zv_iinc (lv' := [(4, .int (zi_ (pl + 1))), (3, .int (zi_ (kp + 1))), (0, .ref (q 0))]) hE dX0_erase_70 hl (k := 1) rfl (by decide) rfl (fun ls hl => ?_)
            refine lv_goto (tgt := 30) hE.1 hE.2 dX0_erase_73 (by decide) ?_
            exact ih (pl + 1) (kp + 1) sa1 (up_ sa2 ((ln2 pl) / 2) kp) ea2 (up_ ln2 kp (ln2 pl)) ni1 ns1 wa1 (by omega) (by omega) (by omega) he1 hct1 (by first | exact (e2_skip hw he2 g0 (by omega) (hgo (by omega))).1 | (rw [hk, hx1]; exact (e2_keep hw he2 g0 (by omega) (hst (by omega))).1 (by omega)) | (rw [hk, hx1]; exact (e2_keep hw he2 g0 (by omega) (hst (by omega))).2.1 (by omega))) (by first | (have := (e2_skip hw he2 g0 (by omega) (hgo (by omega))).2; omega) | (have := (e2_keep hw he2 g0 (by omega) (hst (by omega))).2.2; omega)) _ _ hh ls (lv_sub hl [0, 1, 2] rfl)
          · refine zv_iinc (lv' := [(3, .int (zi_ (kp + 1))), (4, .int (zi_ pl)), (0, .ref (q 0))]) hE dX0_erase_67 hl (k := 1) rfl (by decide) rfl (fun ls hl => ?_)
            refine zv_iinc (lv' := [(4, .int (zi_ (pl + 1))), (3, .int (zi_ (kp + 1))), (0, .ref (q 0))]) hE dX0_erase_70 hl (k := 1) rfl (by decide) rfl (fun ls hl => ?_)
            refine lv_goto (tgt := 30) hE.1 hE.2 dX0_erase_73 (by decide) ?_
            exact ih (pl + 1) (kp + 1) sa1 sa2 (up_ ea2 ((ln2 pl) / 2) kp) (up_ ln2 kp (ln2 pl)) ni1 ns1 wa1 (by omega) (by omega) (by omega) he1 hct1 (by first | exact (e2_skip hw he2 g0 (by omega) (hgo (by omega))).1 | (rw [hk, hx1]; exact (e2_keep hw he2 g0 (by omega) (hst (by omega))).1 (by omega)) | (rw [hk, hx1]; exact (e2_keep hw he2 g0 (by omega) (hst (by omega))).2.1 (by omega))) (by first | (have := (e2_skip hw he2 g0 (by omega) (hgo (by omega))).2; omega) | (have := (e2_keep hw he2 g0 (by omega) (hst (by omega))).2.2; omega)) _ _ hh ls (lv_sub hl [0, 1, 2] rfl)
  have loop_2 : ∀ (n : Nat) (pl : Int) (sa1 : Int → Int) (ni1 ns1 wa1 : Int), (a1 ≤ pl) → (pl ≤ b1) → (b1 - pl < (n : Int)) → (e1_ sa ln a1 pl sa1) → (ct_ sa1 sm wt ni1 ns1 wa1 K) → ∀ (H : Heap) (locs : List Loc), hp_ (dC, dI) vwCl A s.heap (wX_ q cA (ky, wt, sa1, ea, sm, ln, fi, fk, fo, op, ni1, ns1, ev, cu, wa1, fr, oo)) H locs → ∀ (ls : Array Slot), lv_has ls 5 [(3, .int (zi_ pl)), (1, .int (zi_ a1)), (2, .int (zi_ b1)), (0, .ref (q 0))] → W p l e ({ frames := 3, cells := 0, slots := 0, locals := 120 }) s m ([.ref (q 0), .int (zi_ a1), .int (zi_ b1)] : List Value).toArray below meth c H locs 0 0 (MQ below (mc_Qv (dC, dI) vwCl (tX_ cA) (wX_ q cA) (fun (u : SX_) => ∃ (sa2 ea2 ln2 : Int → Int) (ni2 ns2 wa2 : Int), er_ sa ea ln ev a1 b1 sa2 ea2 ln2 ∧ ct_ sa2 sm wt ni2 ns2 wa2 K ∧ u = (ky, wt, sa2, ea2, sm, ln2, fi, fk, fo, op, ni2, ns2, rz_ (gp_ ln a1 b1) ev, cu, wa2, fr, oo)) A) ([.ref (q 0), .int (zi_ a1), .int (zi_ b1)] : List Value).toArray s 0 0 A) (F0 m 2 ls []) := by
    intro n
    induction n with
    | zero => intros; exfalso; omega
    | succ n ih =>
      intro pl sa1 ni1 ns1 wa1 g0 g1 hn he1 hct1 H locs hh ls hl
      refine lv_iload_n hE.1 hE.2 dX0_erase_2 rfl (lv_at hl 0 rfl) ?_
      refine lv_iload_n hE.1 hE.2 dX0_erase_3 rfl (lv_at hl 2 rfl) ?_
      refine zv_icmp_ge (tgt := 25) hE dX0_erase_4 (by decide) ⟨by omega, by omega⟩ ⟨by omega, by omega⟩ (fun hc_7 => ?_) (fun hc_7 => ?_)
      · refine zv_iconst hE dX0_erase_25 ?_
        refine lv_istore_n (lv' := [(3, .int (zi_ 0)), (1, .int (zi_ a1)), (2, .int (zi_ b1)), (0, .ref (q 0))]) hE.1 hE.2 dX0_erase_26 rfl hl (by decide) rfl (fun ls hl => ?_)
        refine zv_iconst hE dX0_erase_27 ?_
        refine lv_istore (lv' := [(4, .int (zi_ 0)), (3, .int (zi_ 0)), (1, .int (zi_ a1)), (2, .int (zi_ b1)), (0, .ref (q 0))]) hE.1 hE.2 dX0_erase_28 hl (by decide) rfl (fun ls hl => ?_)
        exact loop_30 1300 0 0 sa1 sa1 ea ln ni1 ns1 wa1 (by omega) (by omega) (by omega) ((show pl = b1 by omega) ▸ he1) hct1 (e2_0 hw ((show pl = b1 by omega) ▸ he1)) (rz_0 _).symm _ _ hh ls (lv_sub hl [0, 1, 4] rfl)
      · refine lv_aload_n hE.1 hE.2 dX0_erase_7 rfl (lv_at hl 3 rfl) ?_
        refine lv_aload_n hE.1 hE.2 dX0_erase_8 rfl (lv_at hl 3 rfl) ?_
        refine gX_line hE hX hown hK hh dX0_erase_9 ?_
        refine lv_iload_n hE.1 hE.2 dX0_erase_12 rfl (lv_at hl 0 rfl) ?_
        have hx2 := hw.2.2.2 pl (by omega) (by omega)
        have hx3 := e1_zr hw he1 (j := ln pl / 2) (by omega) (by omega)
        have hx4 := hsm (ln pl / 2) (by omega) (by omega)
        refine rX_line hE hK hh ⟨by omega, by omega⟩ dX0_erase_13 ?_
        refine zv_iconst hE dX0_erase_14 ?_
        refine zv_half hE ⟨by omega, by omega⟩ dX0_erase_15 ?_
        refine mc_callv (rest := []) (As := [.int (zi_ ((ln pl) / 2))]) hE hml hown hX hA hK hh (kX_forget l dC dI q cA ky wt sa1 ea sm ln fi fk fo op ni1 ns1 ev cu wa1 fr oo ((ln pl) / 2) (by omega) (by omega) (by first | assumption | exact ⟨by omega, by omega⟩) (by first | assumption | omega)) (cwV 1 hX qX_forget rfl rfl rfl (by decide +kernel) ⟨Nat.le_of_ble_eq_true rfl, Nat.le_of_ble_eq_true rfl⟩) rfl rfl hl.1 rfl (Nat.le_of_ble_eq_true rfl) dX0_erase_16 ⟨Nat.zero_le _, Nat.zero_le _⟩ rfl (fun u H locs hq_8 hh => ?_)
        rcases hq_8 with ⟨hq_8e, rfl⟩ | ⟨hq_8e, rfl⟩
        · refine zv_iinc (lv' := [(3, .int (zi_ (pl + 1))), (1, .int (zi_ a1)), (2, .int (zi_ b1)), (0, .ref (q 0))]) hE dX0_erase_19 hl (k := 0) rfl (by decide) rfl (fun ls hl => ?_)
          refine lv_goto (tgt := 2) hE.1 hE.2 dX0_erase_22 (by decide) ?_
          exact ih (pl + 1) sa1 ni1 ns1 wa1 (by omega) (by omega) (by omega) (by first | exact e1_same he1 g0 (by assumption) | exact e1_put he1 g0) (by first | exact hct1 | exact ct_forget hct1 (by omega) (by omega) (by assumption)) _ _ hh ls (lv_sub hl [0, 1, 2, 3] rfl)
        · refine zv_iinc (lv' := [(3, .int (zi_ (pl + 1))), (1, .int (zi_ a1)), (2, .int (zi_ b1)), (0, .ref (q 0))]) hE dX0_erase_19 hl (k := 0) rfl (by decide) rfl (fun ls hl => ?_)
          refine lv_goto (tgt := 2) hE.1 hE.2 dX0_erase_22 (by decide) ?_
          exact ih (pl + 1) (up_ sa1 ((ln pl) / 2) (-1)) (ni1 - 1) (ns1 - sm ((ln pl) / 2)) (wa1 - wt ((ln pl) / 2)) (by omega) (by omega) (by omega) (by first | exact e1_same he1 g0 (by assumption) | exact e1_put he1 g0) (by first | exact hct1 | exact ct_forget hct1 (by omega) (by omega) (by assumption)) _ _ hh ls (lv_sub hl [0, 1, 2, 3] rfl)
  refine lv_iload_n hE.1 hE.2 dX0_erase_0 rfl (lv_at hl 1 rfl) ?_
  refine lv_istore_n (lv' := [(3, .int (zi_ a1)), (0, .ref (q 0)), (1, .int (zi_ a1)), (2, .int (zi_ b1))]) hE.1 hE.2 dX0_erase_1 rfl hl (by decide) rfl (fun ls hl => ?_)
  exact loop_2 1300 a1 sa ni ns wa (by omega) (by omega) (by omega) e1_0 hct _ _ hh ls (lv_sub hl [0, 2, 3, 1] rfl)
end
section
set_option maxHeartbeats 400000 in
set_option maxRecDepth 100000 in
theorem kX_firstStaleAhead (l : Launch) (dC : Nat → ClassId) (dI : Nat → Nat → Nat) (q : Nat → Nat) (cA : Nat → ClassId) (ky wt sa ea sm ln fi fk fo op : Int → Int) (ni ns ev cu wa fr oo : Int) (hf1 : 1 ≤ fr) (hf2 : fr ≤ 64) (hf5 : -1 ≤ fi (fr - 1) ∧ fi (fr - 1) < 600) (hw : pw_ sa ea ln ev) (hsm : ∀ j : Int, 0 ≤ j → j < 600 → sm j = 0 ∨ sm j = 1) (hc0 : 0 ≤ cu) (hc1 : cu ≤ (lm_ fi ea ev fr)) (hc2 : (lm_ fi ea ev fr) ≤ ev) : mc_i l (dC, dI) vwCl (tX_ cA) (wX_ q cA) yX0_firstStaleAhead wsX0_firstStaleAhead ({ frames := 2, cells := 0, slots := 0, locals := 80 }) (ky, wt, sa, ea, sm, ln, fi, fk, fo, op, ni, ns, ev, cu, wa, fr, oo) [.ref (q 0)] (fun (z : Int) (u : SX_) => u = (ky, wt, sa, ea, sm, ln, fi, fk, fo, op, ni, ns, ev, cu, wa, fr, oo) ∧ fs_ (fun k => ln k % 2 = 0 ∧ sm (ln k / 2) = 1) (fun k => ln k / 2) cu (lm_ fi ea ev fr) z) := by
  refine mc_i_of (cc := cX0_firstStaleAhead) (maxL := 3) (ret := (some .int)) (by decide) rfl (Nat.le_of_ble_eq_true rfl) ?_
  intro p e s m below meth c A ls hE hml hown hts hr hlk hA hK hh hl
  have hown : s.vm.findClass RX0 = some m.cls := hown
  have hX : ∀ w ∈ wsX_, w.before _ s = true := fun w h => hts w (List.mem_cons_of_mem _ h)
  have hl : lv_has ls 3 [(0, .ref (q 0))] := hl
  have w1 := hw.1
  have loop_10 : ∀ (n : Nat) (pl : Int), (cu ≤ pl) → (pl ≤ (lm_ fi ea ev fr)) → ((lm_ fi ea ev fr) - pl < (n : Int)) → (∀ k : Int, cu ≤ k → k < pl → ¬ (fun k => ln k % 2 = 0 ∧ sm (ln k / 2) = 1) k) → ∀ (H : Heap) (locs : List Loc), hp_ (dC, dI) vwCl A s.heap (wX_ q cA (ky, wt, sa, ea, sm, ln, fi, fk, fo, op, ni, ns, ev, cu, wa, fr, oo)) H locs → ∀ (ls : Array Slot), lv_has ls 3 [(2, .int (zi_ pl)), (1, .int (zi_ (lm_ fi ea ev fr))), (0, .ref (q 0))] → W p l e ({ frames := 2, cells := 0, slots := 0, locals := 80 }) s m ([.ref (q 0)] : List Value).toArray below meth c H locs 0 0 (MQ below (mc_Qi (dC, dI) vwCl (tX_ cA) (wX_ q cA) (fun (z : Int) (u : SX_) => u = (ky, wt, sa, ea, sm, ln, fi, fk, fo, op, ni, ns, ev, cu, wa, fr, oo) ∧ fs_ (fun k => ln k % 2 = 0 ∧ sm (ln k / 2) = 1) (fun k => ln k / 2) cu (lm_ fi ea ev fr) z) A) ([.ref (q 0)] : List Value).toArray s 0 0 A) (F0 m 10 ls []) := by
    intro n
    induction n with
    | zero => intros; exfalso; omega
    | succ n ih =>
      intro pl g0 g1 hn hj H locs hh ls hl
      refine lv_iload_n hE.1 hE.2 dX0_firstStaleAhead_10 rfl (lv_at hl 0 rfl) ?_
      refine lv_iload_n hE.1 hE.2 dX0_firstStaleAhead_11 rfl (lv_at hl 1 rfl) ?_
      refine zv_icmp_ge (tgt := 58) hE dX0_firstStaleAhead_12 (by decide) ⟨by omega, by omega⟩ ⟨by omega, by omega⟩ (fun hc_1 => ?_) (fun hc_1 => ?_)
      · refine zv_iconst hE dX0_firstStaleAhead_58 ?_
        refine mc_ret (u := (ky, wt, sa, ea, sm, ln, fi, fk, fo, op, ni, ns, ev, cu, wa, fr, oo)) hE hr hlk hK hh dX0_firstStaleAhead_59 ?_
        refine ⟨rfl, ?_⟩
        first | exact Or.inr ⟨pl, by omega, by omega, ⟨by omega, by omega⟩, rfl, hj⟩ | exact Or.inl ⟨rfl, fun k a b => hj k a (by omega)⟩
      · refine lv_aload_n hE.1 hE.2 dX0_firstStaleAhead_15 rfl (lv_at hl 2 rfl) ?_
        refine gX_line hE hX hown hK hh dX0_firstStaleAhead_16 ?_
        refine lv_iload_n hE.1 hE.2 dX0_firstStaleAhead_19 rfl (lv_at hl 0 rfl) ?_
        have hx2 := hw.2.2.2 pl (by omega) (by omega)
        have hx4 := hsm (ln pl / 2) (by omega) (by omega)
        refine rX_line hE hK hh ⟨by omega, by omega⟩ dX0_firstStaleAhead_20 ?_
        refine mc_calls (rest := []) (As := [.int (zi_ (ln pl))]) hE hml hown hX hA hh (kX_isStart l (ln pl) (by omega) (by omega)) (cwS 1 hX qX_isStart rfl rfl rfl (by decide +kernel) ⟨Nat.le_of_ble_eq_true rfl, Nat.le_of_ble_eq_true rfl⟩) hl.1 rfl (Nat.le_of_ble_eq_true rfl) dX0_firstStaleAhead_21 ⟨Nat.zero_le _, Nat.zero_le _⟩ rfl (fun z_3 H locs hq_2 hh => ?_)
        have hq_2z : zr_ z_3 := ⟨by omega, by omega⟩
        refine zv_if_eq (tgt := 52) hE dX0_firstStaleAhead_24 (by decide) ⟨by omega, by omega⟩ (fun hc_4 => ?_) (fun hc_4 => ?_)
        · refine zv_iinc (lv' := [(2, .int (zi_ (pl + 1))), (1, .int (zi_ (lm_ fi ea ev fr))), (0, .ref (q 0))]) hE dX0_firstStaleAhead_52 hl (k := 0) rfl (by decide) rfl (fun ls hl => ?_)
          refine lv_goto (tgt := 10) hE.1 hE.2 dX0_firstStaleAhead_55 (by decide) ?_
          exact ih (pl + 1) (by omega) (by omega) (by omega) (fun k a b => if hq : k = pl then (by rw [hq]; intro hz; omega) else hj k a (by omega)) _ _ hh ls (lv_sub hl [0, 1, 2] rfl)
        · refine lv_aload_n hE.1 hE.2 dX0_firstStaleAhead_27 rfl (lv_at hl 2 rfl) ?_
          refine gX_staleMark hE hX hown hK hh dX0_firstStaleAhead_28 ?_
          refine lv_aload_n hE.1 hE.2 dX0_firstStaleAhead_31 rfl (lv_at hl 2 rfl) ?_
          refine gX_line hE hX hown hK hh dX0_firstStaleAhead_32 ?_
          refine lv_iload_n hE.1 hE.2 dX0_firstStaleAhead_35 rfl (lv_at hl 0 rfl) ?_
          refine rX_line hE hK hh ⟨by omega, by omega⟩ dX0_firstStaleAhead_36 ?_
          refine zv_iconst hE dX0_firstStaleAhead_37 ?_
          refine zv_half hE ⟨by omega, by omega⟩ dX0_firstStaleAhead_38 ?_
          refine rX_staleMark hE hK hh ⟨by omega, by omega⟩ dX0_firstStaleAhead_39 ?_
          refine zv_if_eq (tgt := 52) hE dX0_firstStaleAhead_40 (by decide) ⟨by omega, by omega⟩ (fun hc_5 => ?_) (fun hc_5 => ?_)
          · refine zv_iinc (lv' := [(2, .int (zi_ (pl + 1))), (1, .int (zi_ (lm_ fi ea ev fr))), (0, .ref (q 0))]) hE dX0_firstStaleAhead_52 hl (k := 0) rfl (by decide) rfl (fun ls hl => ?_)
            refine lv_goto (tgt := 10) hE.1 hE.2 dX0_firstStaleAhead_55 (by decide) ?_
            exact ih (pl + 1) (by omega) (by omega) (by omega) (fun k a b => if hq : k = pl then (by rw [hq]; intro hz; omega) else hj k a (by omega)) _ _ hh ls (lv_sub hl [0, 1, 2] rfl)
          · refine lv_aload_n hE.1 hE.2 dX0_firstStaleAhead_43 rfl (lv_at hl 2 rfl) ?_
            refine gX_line hE hX hown hK hh dX0_firstStaleAhead_44 ?_
            refine lv_iload_n hE.1 hE.2 dX0_firstStaleAhead_47 rfl (lv_at hl 0 rfl) ?_
            refine rX_line hE hK hh ⟨by omega, by omega⟩ dX0_firstStaleAhead_48 ?_
            refine zv_iconst hE dX0_firstStaleAhead_49 ?_
            refine zv_half hE ⟨by omega, by omega⟩ dX0_firstStaleAhead_50 ?_
            refine mc_ret (u := (ky, wt, sa, ea, sm, ln, fi, fk, fo, op, ni, ns, ev, cu, wa, fr, oo)) hE hr hlk hK hh dX0_firstStaleAhead_51 ?_
            refine ⟨rfl, ?_⟩
            first | exact Or.inr ⟨pl, by omega, by omega, ⟨by omega, by omega⟩, rfl, hj⟩ | exact Or.inl ⟨rfl, fun k a b => hj k a (by omega)⟩
  refine lv_aload_n hE.1 hE.2 dX0_firstStaleAhead_0 rfl (lv_at hl 0 rfl) ?_
  refine mc_call (rest := []) (As := []) hE hml hown hX hA hK hh (kX_aheadUpTo l dC dI q cA ky wt sa ea sm ln fi fk fo op ni ns ev cu wa fr oo hf1 hf2 hf5) (cwV 0 hX qX_aheadUpTo rfl rfl rfl (by decide +kernel) ⟨Nat.le_of_ble_eq_true rfl, Nat.le_of_ble_eq_true rfl⟩) rfl rfl hl.1 rfl (Nat.le_of_ble_eq_true rfl) dX0_firstStaleAhead_1 ⟨Nat.zero_le _, Nat.zero_le _⟩ rfl (fun z_7 u H locs hq_6 hh => ?_)
  obtain ⟨rfl, rfl⟩ := hq_6
  refine lv_istore_n (lv' := [(1, .int (zi_ (lm_ fi ea ev fr))), (0, .ref (q 0))]) hE.1 hE.2 dX0_firstStaleAhead_4 rfl hl (by decide) rfl (fun ls hl => ?_)
  refine lv_aload_n hE.1 hE.2 dX0_firstStaleAhead_5 rfl (lv_at hl 1 rfl) ?_
  refine gX_cursor hE hX hown hK hh dX0_firstStaleAhead_6 ?_
  refine lv_istore_n (lv' := [(2, .int (zi_ cu)), (1, .int (zi_ (lm_ fi ea ev fr))), (0, .ref (q 0))]) hE.1 hE.2 dX0_firstStaleAhead_9 rfl hl (by decide) rfl (fun ls hl => ?_)
  exact loop_10 1300 cu (by omega) (by omega) (by omega) (fun k a b => by omega) _ _ hh ls (lv_sub hl [0, 1, 2] rfl)
set_option maxHeartbeats 400000 in
set_option maxRecDepth 100000 in
theorem kX_firstFreshAhead (l : Launch) (dC : Nat → ClassId) (dI : Nat → Nat → Nat) (q : Nat → Nat) (cA : Nat → ClassId) (ky wt sa ea sm ln fi fk fo op : Int → Int) (ni ns ev cu wa fr oo : Int) (key : Int) (hf1 : 1 ≤ fr) (hf2 : fr ≤ 64) (hf5 : -1 ≤ fi (fr - 1) ∧ fi (fr - 1) < 600) (hw : pw_ sa ea ln ev) (hsm : ∀ j : Int, 0 ≤ j → j < 600 → sm j = 0 ∨ sm j = 1) (hc0 : 0 ≤ cu) (hc1 : cu ≤ (lm_ fi ea ev fr)) (hc2 : (lm_ fi ea ev fr) ≤ ev) (hk0 : zr_ key) (hky : ∀ j : Int, 0 ≤ j → j < 600 → zr_ (ky j)) : mc_i l (dC, dI) vwCl (tX_ cA) (wX_ q cA) yX0_firstFreshAhead wsX0_firstFreshAhead ({ frames := 2, cells := 0, slots := 0, locals := 80 }) (ky, wt, sa, ea, sm, ln, fi, fk, fo, op, ni, ns, ev, cu, wa, fr, oo) [.ref (q 0), .int (zi_ key)] (fun (z : Int) (u : SX_) => u = (ky, wt, sa, ea, sm, ln, fi, fk, fo, op, ni, ns, ev, cu, wa, fr, oo) ∧ fs_ (fun k => ln k % 2 = 0 ∧ ky (ln k / 2) = key ∧ sm (ln k / 2) = 0 ∧ ea (ln k / 2) ≠ -1 ∧ ea (ln k / 2) < (lm_ fi ea ev fr)) (fun k => ln k / 2) cu (lm_ fi ea ev fr) z) := by
  refine mc_i_of (cc := cX0_firstFreshAhead) (maxL := 6) (ret := (some .int)) (by decide) rfl (Nat.le_of_ble_eq_true rfl) ?_
  intro p e s m below meth c A ls hE hml hown hts hr hlk hA hK hh hl
  have hown : s.vm.findClass RX0 = some m.cls := hown
  have hX : ∀ w ∈ wsX_, w.before _ s = true := fun w h => hts w (List.mem_cons_of_mem _ h)
  have hl : lv_has ls 6 [(0, .ref (q 0)), (1, .int (zi_ key))] := hl
  have w1 := hw.1
  have loop_10 : ∀ (n : Nat) (pl : Int), (cu ≤ pl) → (pl ≤ (lm_ fi ea ev fr)) → ((lm_ fi ea ev fr) - pl < (n : Int)) → (∀ k : Int, cu ≤ k → k < pl → ¬ (fun k => ln k % 2 = 0 ∧ ky (ln k / 2) = key ∧ sm (ln k / 2) = 0 ∧ ea (ln k / 2) ≠ -1 ∧ ea (ln k / 2) < (lm_ fi ea ev fr)) k) → ∀ (H : Heap) (locs : List Loc), hp_ (dC, dI) vwCl A s.heap (wX_ q cA (ky, wt, sa, ea, sm, ln, fi, fk, fo, op, ni, ns, ev, cu, wa, fr, oo)) H locs → ∀ (ls : Array Slot), lv_has ls 6 [(3, .int (zi_ pl)), (2, .int (zi_ (lm_ fi ea ev fr))), (1, .int (zi_ key)), (0, .ref (q 0))] → W p l e ({ frames := 2, cells := 0, slots := 0, locals := 80 }) s m ([.ref (q 0), .int (zi_ key)] : List Value).toArray below meth c H locs 0 0 (MQ below (mc_Qi (dC, dI) vwCl (tX_ cA) (wX_ q cA) (fun (z : Int) (u : SX_) => u = (ky, wt, sa, ea, sm, ln, fi, fk, fo, op, ni, ns, ev, cu, wa, fr, oo) ∧ fs_ (fun k => ln k % 2 = 0 ∧ ky (ln k / 2) = key ∧ sm (ln k / 2) = 0 ∧ ea (ln k / 2) ≠ -1 ∧ ea (ln k / 2) < (lm_ fi ea ev fr)) (fun k => ln k / 2) cu (lm_ fi ea ev fr) z) A) ([.ref (q 0), .int (zi_ key)] : List Value).toArray s 0 0 A) (F0 m 10 ls []) := by
    intro n
    induction n with
    | zero => intros; exfalso; omega
    | succ n ih =>
      intro pl g0 g1 hn hj H locs hh ls hl
      refine lv_iload_n hE.1 hE.2 dX0_firstFreshAhead_10 rfl (lv_at hl 0 rfl) ?_
      refine lv_iload_n hE.1 hE.2 dX0_firstFreshAhead_11 rfl (lv_at hl 1 rfl) ?_
      refine zv_icmp_ge (tgt := 99) hE dX0_firstFreshAhead_12 (by decide) ⟨by omega, by omega⟩ ⟨by omega, by omega⟩ (fun hc_1 => ?_) (fun hc_1 => ?_)
      · refine zv_iconst hE dX0_firstFreshAhead_99 ?_
        refine mc_ret (u := (ky, wt, sa, ea, sm, ln, fi, fk, fo, op, ni, ns, ev, cu, wa, fr, oo)) hE hr hlk hK hh dX0_firstFreshAhead_100 ?_
        refine ⟨rfl, ?_⟩
        first | exact Or.inr ⟨pl, by omega, by omega, ⟨by omega, by omega, by omega, by omega, by omega⟩, rfl, hj⟩ | exact Or.inl ⟨rfl, fun k a b => hj k a (by omega)⟩
      · refine lv_aload_n hE.1 hE.2 dX0_firstFreshAhead_15 rfl (lv_at hl 3 rfl) ?_
        refine gX_line hE hX hown hK hh dX0_firstFreshAhead_16 ?_
        refine lv_iload_n hE.1 hE.2 dX0_firstFreshAhead_19 rfl (lv_at hl 0 rfl) ?_
        have hx2 := hw.2.2.2 pl (by omega) (by omega)
        have hx4 := hsm (ln pl / 2) (by omega) (by omega)
        have hx5 := hky (ln pl / 2) (by omega) (by omega)
        refine rX_line hE hK hh ⟨by omega, by omega⟩ dX0_firstFreshAhead_20 ?_
        refine zv_iconst hE dX0_firstFreshAhead_21 ?_
        refine zv_half hE ⟨by omega, by omega⟩ dX0_firstFreshAhead_22 ?_
        refine lv_istore (lv' := [(4, .int (zi_ ((ln pl) / 2))), (3, .int (zi_ pl)), (2, .int (zi_ (lm_ fi ea ev fr))), (1, .int (zi_ key)), (0, .ref (q 0))]) hE.1 hE.2 dX0_firstFreshAhead_23 hl (by decide) rfl (fun ls hl => ?_)
        refine lv_aload_n hE.1 hE.2 dX0_firstFreshAhead_25 rfl (lv_at hl 4 rfl) ?_
        refine gX_line hE hX hown hK hh dX0_firstFreshAhead_26 ?_
        refine lv_iload_n hE.1 hE.2 dX0_firstFreshAhead_29 rfl (lv_at hl 1 rfl) ?_
        refine rX_line hE hK hh ⟨by omega, by omega⟩ dX0_firstFreshAhead_30 ?_
        refine mc_calls (rest := []) (As := [.int (zi_ (ln pl))]) hE hml hown hX hA hh (kX_isStart l (ln pl) (by omega) (by omega)) (cwS 1 hX qX_isStart rfl rfl rfl (by decide +kernel) ⟨Nat.le_of_ble_eq_true rfl, Nat.le_of_ble_eq_true rfl⟩) hl.1 rfl (Nat.le_of_ble_eq_true rfl) dX0_firstFreshAhead_31 ⟨Nat.zero_le _, Nat.zero_le _⟩ rfl (fun z_3 H locs hq_2 hh => ?_)
        have hq_2z : zr_ z_3 := ⟨by omega, by omega⟩
        refine zv_if_eq (tgt := 62) hE dX0_firstFreshAhead_34 (by decide) ⟨by omega, by omega⟩ (fun hc_4 => ?_) (fun hc_4 => ?_)
        · refine zv_iconst hE dX0_firstFreshAhead_62 ?_
          refine lv_istore (lv' := [(5, .int (zi_ 0)), (4, .int (zi_ ((ln pl) / 2))), (3, .int (zi_ pl)), (2, .int (zi_ (lm_ fi ea ev fr))), (1, .int (zi_ key)), (0, .ref (q 0))]) hE.1 hE.2 dX0_firstFreshAhead_63 hl (by decide) rfl (fun ls hl => ?_)
          refine lv_iload hE.1 hE.2 dX0_firstFreshAhead_65 (lv_at hl 0 rfl) ?_
          refine zv_if_eq (tgt := 93) hE dX0_firstFreshAhead_67 (by decide) ⟨by omega, by omega⟩ (fun hc_5 => ?_) (fun hc_5 => ?_)
          · refine zv_iinc (lv' := [(3, .int (zi_ (pl + 1))), (5, .int (zi_ 0)), (4, .int (zi_ ((ln pl) / 2))), (2, .int (zi_ (lm_ fi ea ev fr))), (1, .int (zi_ key)), (0, .ref (q 0))]) hE dX0_firstFreshAhead_93 hl (k := 2) rfl (by decide) rfl (fun ls hl => ?_)
            refine lv_goto (tgt := 10) hE.1 hE.2 dX0_firstFreshAhead_96 (by decide) ?_
            exact ih (pl + 1) (by omega) (by omega) (by omega) (fun k a b => if hq : k = pl then (by rw [hq]; intro hz; omega) else hj k a (by omega)) _ _ hh ls (lv_sub hl [0, 3, 4, 5] rfl)
          · exact absurd hc_5 (by decide)
        · refine lv_aload_n hE.1 hE.2 dX0_firstFreshAhead_37 rfl (lv_at hl 4 rfl) ?_
          refine gX_keys hE hX hown hK hh dX0_firstFreshAhead_38 ?_
          refine lv_iload hE.1 hE.2 dX0_firstFreshAhead_41 (lv_at hl 0 rfl) ?_
          refine rX_keys hE hK hh ⟨by omega, by omega⟩ dX0_firstFreshAhead_43 ?_
          refine lv_iload_n hE.1 hE.2 dX0_firstFreshAhead_44 rfl (lv_at hl 3 rfl) ?_
          refine zv_icmp_ne (tgt := 62) hE dX0_firstFreshAhead_45 (by decide) ⟨by omega, by omega⟩ ⟨by omega, by omega⟩ (fun hc_6 => ?_) (fun hc_6 => ?_)
          · refine zv_iconst hE dX0_firstFreshAhead_62 ?_
            refine lv_istore (lv' := [(5, .int (zi_ 0)), (4, .int (zi_ ((ln pl) / 2))), (3, .int (zi_ pl)), (2, .int (zi_ (lm_ fi ea ev fr))), (1, .int (zi_ key)), (0, .ref (q 0))]) hE.1 hE.2 dX0_firstFreshAhead_63 hl (by decide) rfl (fun ls hl => ?_)
            refine lv_iload hE.1 hE.2 dX0_firstFreshAhead_65 (lv_at hl 0 rfl) ?_
            refine zv_if_eq (tgt := 93) hE dX0_firstFreshAhead_67 (by decide) ⟨by omega, by omega⟩ (fun hc_7 => ?_) (fun hc_7 => ?_)
            · refine zv_iinc (lv' := [(3, .int (zi_ (pl + 1))), (5, .int (zi_ 0)), (4, .int (zi_ ((ln pl) / 2))), (2, .int (zi_ (lm_ fi ea ev fr))), (1, .int (zi_ key)), (0, .ref (q 0))]) hE dX0_firstFreshAhead_93 hl (k := 2) rfl (by decide) rfl (fun ls hl => ?_)
              refine lv_goto (tgt := 10) hE.1 hE.2 dX0_firstFreshAhead_96 (by decide) ?_
              exact ih (pl + 1) (by omega) (by omega) (by omega) (fun k a b => if hq : k = pl then (by rw [hq]; intro hz; omega) else hj k a (by omega)) _ _ hh ls (lv_sub hl [0, 3, 4, 5] rfl)
            · exact absurd hc_7 (by decide)
          · refine lv_aload_n hE.1 hE.2 dX0_firstFreshAhead_48 rfl (lv_at hl 4 rfl) ?_
            refine gX_staleMark hE hX hown hK hh dX0_firstFreshAhead_49 ?_
            refine lv_iload hE.1 hE.2 dX0_firstFreshAhead_52 (lv_at hl 0 rfl) ?_
            refine rX_staleMark hE hK hh ⟨by omega, by omega⟩ dX0_firstFreshAhead_54 ?_
            refine zv_if_ne (tgt := 62) hE dX0_firstFreshAhead_55 (by decide) ⟨by omega, by omega⟩ (fun hc_8 => ?_) (fun hc_8 => ?_)
            · refine zv_iconst hE dX0_firstFreshAhead_62 ?_
              refine lv_istore (lv' := [(5, .int (zi_ 0)), (4, .int (zi_ ((ln pl) / 2))), (3, .int (zi_ pl)), (2, .int (zi_ (lm_ fi ea ev fr))), (1, .int (zi_ key)), (0, .ref (q 0))]) hE.1 hE.2 dX0_firstFreshAhead_63 hl (by decide) rfl (fun ls hl => ?_)
              refine lv_iload hE.1 hE.2 dX0_firstFreshAhead_65 (lv_at hl 0 rfl) ?_
              refine zv_if_eq (tgt := 93) hE dX0_firstFreshAhead_67 (by decide) ⟨by omega, by omega⟩ (fun hc_9 => ?_) (fun hc_9 => ?_)
              · refine zv_iinc (lv' := [(3, .int (zi_ (pl + 1))), (5, .int (zi_ 0)), (4, .int (zi_ ((ln pl) / 2))), (2, .int (zi_ (lm_ fi ea ev fr))), (1, .int (zi_ key)), (0, .ref (q 0))]) hE dX0_firstFreshAhead_93 hl (k := 2) rfl (by decide) rfl (fun ls hl => ?_)
                refine lv_goto (tgt := 10) hE.1 hE.2 dX0_firstFreshAhead_96 (by decide) ?_
                exact ih (pl + 1) (by omega) (by omega) (by omega) (fun k a b => if hq : k = pl then (by rw [hq]; intro hz; omega) else hj k a (by omega)) _ _ hh ls (lv_sub hl [0, 3, 4, 5] rfl)
              · exact absurd hc_9 (by decide)
            · refine zv_iconst hE dX0_firstFreshAhead_58 ?_
              refine lv_goto (tgt := 63) hE.1 hE.2 dX0_firstFreshAhead_59 (by decide) ?_
              refine lv_istore (lv' := [(5, .int (zi_ 1)), (4, .int (zi_ ((ln pl) / 2))), (3, .int (zi_ pl)), (2, .int (zi_ (lm_ fi ea ev fr))), (1, .int (zi_ key)), (0, .ref (q 0))]) hE.1 hE.2 dX0_firstFreshAhead_63 hl (by decide) rfl (fun ls hl => ?_)
              refine lv_iload hE.1 hE.2 dX0_firstFreshAhead_65 (lv_at hl 0 rfl) ?_
              refine zv_if_eq (tgt := 93) hE dX0_firstFreshAhead_67 (by decide) ⟨by omega, by omega⟩ (fun hc_10 => ?_) (fun hc_10 => ?_)
              · exact absurd hc_10 (by decide)
              · refine lv_aload_n hE.1 hE.2 dX0_firstFreshAhead_70 rfl (lv_at hl 5 rfl) ?_
                refine lv_iload hE.1 hE.2 dX0_firstFreshAhead_71 (lv_at hl 1 rfl) ?_
                have hx6 : sa (ln pl / 2) ≠ -1 := by
                  have t1 := hx2.2.2.1
                  have t2 := hx2.2.2.2
                  omega
                have hx7 := hw.2.2.1 (ln pl / 2) (by omega) (by omega) hx6
                refine mc_call (rest := []) (As := [.int (zi_ ((ln pl) / 2))]) hE hml hown hX hA hK hh (kX_isEnded l dC dI q cA ky wt sa ea sm ln fi fk fo op ni ns ev cu wa fr oo ((ln pl) / 2) (by omega) (by omega) (by first | assumption | exact ⟨by omega, by omega⟩)) (cwV 1 hX qX_isEnded rfl rfl rfl (by decide +kernel) ⟨Nat.le_of_ble_eq_true rfl, Nat.le_of_ble_eq_true rfl⟩) rfl rfl hl.1 rfl (Nat.le_of_ble_eq_true rfl) dX0_firstFreshAhead_73 ⟨Nat.zero_le _, Nat.zero_le _⟩ rfl (fun z_12 u H locs hq_11 hh => ?_)
                obtain ⟨rfl, hq_11⟩ := hq_11
                refine zv_if_eq (tgt := 93) hE dX0_firstFreshAhead_76 (by decide) ⟨by omega, by omega⟩ (fun hc_13 => ?_) (fun hc_13 => ?_)
                · refine zv_iinc (lv' := [(3, .int (zi_ (pl + 1))), (5, .int (zi_ 1)), (4, .int (zi_ ((ln pl) / 2))), (2, .int (zi_ (lm_ fi ea ev fr))), (1, .int (zi_ key)), (0, .ref (q 0))]) hE dX0_firstFreshAhead_93 hl (k := 2) rfl (by decide) rfl (fun ls hl => ?_)
                  refine lv_goto (tgt := 10) hE.1 hE.2 dX0_firstFreshAhead_96 (by decide) ?_
                  exact ih (pl + 1) (by omega) (by omega) (by omega) (fun k a b => if hq : k = pl then (by rw [hq]; intro hz; omega) else hj k a (by omega)) _ _ hh ls (lv_sub hl [0, 3, 4, 5] rfl)
                · refine lv_aload_n hE.1 hE.2 dX0_firstFreshAhead_79 rfl (lv_at hl 5 rfl) ?_
                  refine gX_endAt hE hX hown hK hh dX0_firstFreshAhead_80 ?_
                  refine lv_iload hE.1 hE.2 dX0_firstFreshAhead_83 (lv_at hl 1 rfl) ?_
                  refine rX_endAt hE hK hh ⟨by omega, by omega⟩ dX0_firstFreshAhead_85 ?_
                  refine lv_iload_n hE.1 hE.2 dX0_firstFreshAhead_86 rfl (lv_at hl 3 rfl) ?_
                  refine zv_icmp_ge (tgt := 93) hE dX0_firstFreshAhead_87 (by decide) ⟨by omega, by omega⟩ ⟨by omega, by omega⟩ (fun hc_14 => ?_) (fun hc_14 => ?_)
                  · refine zv_iinc (lv' := [(3, .int (zi_ (pl + 1))), (5, .int (zi_ 1)), (4, .int (zi_ ((ln pl) / 2))), (2, .int (zi_ (lm_ fi ea ev fr))), (1, .int (zi_ key)), (0, .ref (q 0))]) hE dX0_firstFreshAhead_93 hl (k := 2) rfl (by decide) rfl (fun ls hl => ?_)
                    refine lv_goto (tgt := 10) hE.1 hE.2 dX0_firstFreshAhead_96 (by decide) ?_
                    exact ih (pl + 1) (by omega) (by omega) (by omega) (fun k a b => if hq : k = pl then (by rw [hq]; intro hz; omega) else hj k a (by omega)) _ _ hh ls (lv_sub hl [0, 3, 4, 5] rfl)
                  · refine lv_iload hE.1 hE.2 dX0_firstFreshAhead_90 (lv_at hl 1 rfl) ?_
                    refine mc_ret (u := (ky, wt, sa, ea, sm, ln, fi, fk, fo, op, ni, ns, ev, cu, wa, fr, oo)) hE hr hlk hK hh dX0_firstFreshAhead_92 ?_
                    refine ⟨rfl, ?_⟩
                    first | exact Or.inr ⟨pl, by omega, by omega, ⟨by omega, by omega, by omega, by omega, by omega⟩, rfl, hj⟩ | exact Or.inl ⟨rfl, fun k a b => hj k a (by omega)⟩
  refine lv_aload_n hE.1 hE.2 dX0_firstFreshAhead_0 rfl (lv_at hl 0 rfl) ?_
  refine mc_call (rest := []) (As := []) hE hml hown hX hA hK hh (kX_aheadUpTo l dC dI q cA ky wt sa ea sm ln fi fk fo op ni ns ev cu wa fr oo hf1 hf2 hf5) (cwV 0 hX qX_aheadUpTo rfl rfl rfl (by decide +kernel) ⟨Nat.le_of_ble_eq_true rfl, Nat.le_of_ble_eq_true rfl⟩) rfl rfl hl.1 rfl (Nat.le_of_ble_eq_true rfl) dX0_firstFreshAhead_1 ⟨Nat.zero_le _, Nat.zero_le _⟩ rfl (fun z_16 u H locs hq_15 hh => ?_)
  obtain ⟨rfl, rfl⟩ := hq_15
  refine lv_istore_n (lv' := [(2, .int (zi_ (lm_ fi ea ev fr))), (0, .ref (q 0)), (1, .int (zi_ key))]) hE.1 hE.2 dX0_firstFreshAhead_4 rfl hl (by decide) rfl (fun ls hl => ?_)
  refine lv_aload_n hE.1 hE.2 dX0_firstFreshAhead_5 rfl (lv_at hl 1 rfl) ?_
  refine gX_cursor hE hX hown hK hh dX0_firstFreshAhead_6 ?_
  refine lv_istore_n (lv' := [(3, .int (zi_ cu)), (2, .int (zi_ (lm_ fi ea ev fr))), (0, .ref (q 0)), (1, .int (zi_ key))]) hE.1 hE.2 dX0_firstFreshAhead_9 rfl hl (by decide) rfl (fun ls hl => ?_)
  exact loop_10 1300 cu (by omega) (by omega) (by omega) (fun k a b => by omega) _ _ hh ls (lv_sub hl [0, 1, 3, 2] rfl)
set_option maxHeartbeats 400000 in
set_option maxRecDepth 100000 in
theorem kX_putFrame (l : Launch) (dC : Nat → ClassId) (dI : Nat → Nat → Nat) (q : Nat → Nat) (cA : Nat → ClassId) (ky wt sa ea sm ln fi fk fo op : Int → Int) (ni ns ev cu wa fr oo : Int) (i kd : Int) (hf1 : 1 ≤ fr) (hf2 : fr < 64) (h0 : 0 ≤ i) (h1 : i < 600) : mc_v l (dC, dI) vwCl (tX_ cA) (wX_ q cA) yX0_putFrame wsX0_putFrame ({ frames := 0, cells := 0, slots := 0, locals := 0 }) (ky, wt, sa, ea, sm, ln, fi, fk, fo, op, ni, ns, ev, cu, wa, fr, oo) [.ref (q 0), .int (zi_ i), .int (zi_ kd)] (fun (u : SX_) => u = (ky, wt, sa, ea, sm, ln, up_ fi fr i, up_ fk fr kd, up_ fo fr oo, op, ni, ns, ev, sa i + 1, wa, fr + 1, oo)) := by
  refine mc_v_of (cc := cX0_putFrame) (maxL := 3) (ret := none) (by decide) rfl (Nat.le_of_ble_eq_true rfl) ?_
  intro p e s m below meth c A ls hE hml hown hts hr hlk hA hK hh hl
  have hown : s.vm.findClass RX0 = some m.cls := hown
  have hX : ∀ w ∈ wsX_, w.before _ s = true := fun w h => hts w (List.mem_cons_of_mem _ h)
  have hl : lv_has ls 3 [(0, .ref (q 0)), (1, .int (zi_ i)), (2, .int (zi_ kd))] := hl
  refine lv_aload_n hE.1 hE.2 dX0_putFrame_0 rfl (lv_at hl 0 rfl) ?_
  refine gX_frames hE hX hown hK hh dX0_putFrame_1 ?_
  refine zv_bipush hE dX0_putFrame_4 (by decide) ?_
  refine zv_icmp_lt (tgt := 10) hE dX0_putFrame_6 (by decide) ⟨by omega, by omega⟩ ⟨by omega, by omega⟩ (fun hc_1 => ?_) (fun hc_1 => ?_)
  · refine lv_aload_n hE.1 hE.2 dX0_putFrame_10 rfl (lv_at hl 0 rfl) ?_
    refine gX_frameInterval hE hX hown hK hh dX0_putFrame_11 ?_
    refine lv_aload_n hE.1 hE.2 dX0_putFrame_14 rfl (lv_at hl 0 rfl) ?_
    refine gX_frames hE hX hown hK hh dX0_putFrame_15 ?_
    refine lv_iload_n hE.1 hE.2 dX0_putFrame_18 rfl (lv_at hl 1 rfl) ?_
    refine sX_frameInterval hE hK hh ⟨by omega, by omega⟩ dX0_putFrame_19 (fun H locs hh => ?_)
    refine lv_aload_n hE.1 hE.2 dX0_putFrame_20 rfl (lv_at hl 0 rfl) ?_
    refine gX_frameKind hE hX hown hK hh dX0_putFrame_21 ?_
    refine lv_aload_n hE.1 hE.2 dX0_putFrame_24 rfl (lv_at hl 0 rfl) ?_
    refine gX_frames hE hX hown hK hh dX0_putFrame_25 ?_
    refine lv_iload_n hE.1 hE.2 dX0_putFrame_28 rfl (lv_at hl 2 rfl) ?_
    refine sX_frameKind hE hK hh ⟨by omega, by omega⟩ dX0_putFrame_29 (fun H locs hh => ?_)
    refine lv_aload_n hE.1 hE.2 dX0_putFrame_30 rfl (lv_at hl 0 rfl) ?_
    refine gX_frameOpenBelow hE hX hown hK hh dX0_putFrame_31 ?_
    refine lv_aload_n hE.1 hE.2 dX0_putFrame_34 rfl (lv_at hl 0 rfl) ?_
    refine gX_frames hE hX hown hK hh dX0_putFrame_35 ?_
    refine lv_aload_n hE.1 hE.2 dX0_putFrame_38 rfl (lv_at hl 0 rfl) ?_
    refine gX_openOnes hE hX hown hK hh dX0_putFrame_39 ?_
    refine sX_frameOpenBelow hE hK hh ⟨by omega, by omega⟩ dX0_putFrame_42 (fun H locs hh => ?_)
    refine lv_aload_n hE.1 hE.2 dX0_putFrame_43 rfl (lv_at hl 0 rfl) ?_
    refine lv_dup hE.1 hE.2 dX0_putFrame_44 rfl ?_
    refine gX_frames hE hX hown hK hh dX0_putFrame_45 ?_
    refine zv_iconst hE dX0_putFrame_48 ?_
    refine zv_iadd hE dX0_putFrame_49 ?_
    refine pX_frames hE hX hown hK hh dX0_putFrame_50 (fun H locs hh => ?_)
    refine lv_aload_n hE.1 hE.2 dX0_putFrame_53 rfl (lv_at hl 0 rfl) ?_
    refine lv_aload_n hE.1 hE.2 dX0_putFrame_54 rfl (lv_at hl 0 rfl) ?_
    refine gX_startAt hE hX hown hK hh dX0_putFrame_55 ?_
    refine lv_iload_n hE.1 hE.2 dX0_putFrame_58 rfl (lv_at hl 1 rfl) ?_
    refine rX_startAt hE hK hh ⟨by omega, by omega⟩ dX0_putFrame_59 ?_
    refine zv_iconst hE dX0_putFrame_60 ?_
    refine zv_iadd hE dX0_putFrame_61 ?_
    refine pX_cursor hE hX hown hK hh dX0_putFrame_62 (fun H locs hh => ?_)
    refine mc_retv (u := (ky, wt, sa, ea, sm, ln, up_ fi fr i, up_ fk fr kd, up_ fo fr oo, op, ni, ns, ev, (sa i) + 1, wa, fr + 1, oo)) hE hr hlk hK hh dX0_putFrame_65 ?_
    first | rfl | exact absurd hf2 (by omega)
  · refine mc_retv (u := (ky, wt, sa, ea, sm, ln, fi, fk, fo, op, ni, ns, ev, cu, wa, fr, oo)) hE hr hlk hK hh dX0_putFrame_9 ?_
    first | rfl | exact absurd hf2 (by omega)
set_option maxHeartbeats 400000 in
set_option maxRecDepth 100000 in
theorem kX_makeEmpty (l : Launch) (dC : Nat → ClassId) (dI : Nat → Nat → Nat) (q : Nat → Nat) (cA : Nat → ClassId) (ky wt sa ea sm ln fi fk fo op : Int → Int) (ni ns ev cu wa fr oo : Int)  : mc_v l (dC, dI) vwCl (tX_ cA) (wX_ q cA) yX0_makeEmpty wsX0_makeEmpty ({ frames := 0, cells := 0, slots := 0, locals := 0 }) (ky, wt, sa, ea, sm, ln, fi, fk, fo, op, ni, ns, ev, cu, wa, fr, oo) [.ref (q 0)] (fun (u : SX_) => ∃ sa1 : Int → Int, (∀ j : Int, 0 ≤ j → j < 600 → sa1 j = -1) ∧ u = (ky, wt, sa1, ea, sm, ln, up_ fi 0 (-1), up_ fk 0 0, up_ fo 0 0, op, 0, 0, 0, 0, 0, 1, 0)) := by
  refine mc_v_of (cc := cX0_makeEmpty) (maxL := 2) (ret := none) (by decide) rfl (Nat.le_of_ble_eq_true rfl) ?_
  intro p e s m below meth c A ls hE hml hown hts hr hlk hA hK hh hl
  have hown : s.vm.findClass RX0 = some m.cls := hown
  have hX : ∀ w ∈ wsX_, w.before _ s = true := fun w h => hts w (List.mem_cons_of_mem _ h)
  have hl : lv_has ls 2 [(0, .ref (q 0))] := hl
  have loop_2 : ∀ (n : Nat) (i : Int) (sa1 : Int → Int), (0 ≤ i) → (i ≤ 600) → (600 - i < (n : Int)) → (∀ j : Int, 0 ≤ j → j < i → sa1 j = -1) → ∀ (H : Heap) (locs : List Loc), hp_ (dC, dI) vwCl A s.heap (wX_ q cA (ky, wt, sa1, ea, sm, ln, fi, fk, fo, op, ni, ns, ev, cu, wa, fr, oo)) H locs → ∀ (ls : Array Slot), lv_has ls 2 [(1, .int (zi_ i)), (0, .ref (q 0))] → W p l e ({ frames := 0, cells := 0, slots := 0, locals := 0 }) s m ([.ref (q 0)] : List Value).toArray below meth c H locs 0 0 (MQ below (mc_Qv (dC, dI) vwCl (tX_ cA) (wX_ q cA) (fun (u : SX_) => ∃ sa1 : Int → Int, (∀ j : Int, 0 ≤ j → j < 600 → sa1 j = -1) ∧ u = (ky, wt, sa1, ea, sm, ln, up_ fi 0 (-1), up_ fk 0 0, up_ fo 0 0, op, 0, 0, 0, 0, 0, 1, 0)) A) ([.ref (q 0)] : List Value).toArray s 0 0 A) (F0 m 2 ls []) := by
    intro n
    induction n with
    | zero => intros; exfalso; omega
    | succ n ih =>
      intro i sa1 h0 h1 hn hj H locs hh ls hl
      refine lv_iload_n hE.1 hE.2 dX0_makeEmpty_2 rfl (lv_at hl 0 rfl) ?_
      refine zv_sipush hE dX0_makeEmpty_3 (by decide) ?_
      refine zv_icmp_ge (tgt := 22) hE dX0_makeEmpty_6 (by decide) ⟨by omega, by omega⟩ ⟨by omega, by omega⟩ (fun hc_1 => ?_) (fun hc_1 => ?_)
      · refine lv_aload_n hE.1 hE.2 dX0_makeEmpty_22 rfl (lv_at hl 1 rfl) ?_
        refine zv_iconst hE dX0_makeEmpty_23 ?_
        refine pX_intervals hE hX hown hK hh dX0_makeEmpty_24 (fun H locs hh => ?_)
        refine lv_aload_n hE.1 hE.2 dX0_makeEmpty_27 rfl (lv_at hl 1 rfl) ?_
        refine zv_iconst hE dX0_makeEmpty_28 ?_
        refine pX_staleOnes hE hX hown hK hh dX0_makeEmpty_29 (fun H locs hh => ?_)
        refine lv_aload_n hE.1 hE.2 dX0_makeEmpty_32 rfl (lv_at hl 1 rfl) ?_
        refine zv_iconst hE dX0_makeEmpty_33 ?_
        refine pX_events hE hX hown hK hh dX0_makeEmpty_34 (fun H locs hh => ?_)
        refine lv_aload_n hE.1 hE.2 dX0_makeEmpty_37 rfl (lv_at hl 1 rfl) ?_
        refine zv_iconst hE dX0_makeEmpty_38 ?_
        refine pX_cursor hE hX hown hK hh dX0_makeEmpty_39 (fun H locs hh => ?_)
        refine lv_aload_n hE.1 hE.2 dX0_makeEmpty_42 rfl (lv_at hl 1 rfl) ?_
        refine zv_iconst hE dX0_makeEmpty_43 ?_
        refine pX_weightInAll hE hX hown hK hh dX0_makeEmpty_44 (fun H locs hh => ?_)
        refine lv_aload_n hE.1 hE.2 dX0_makeEmpty_47 rfl (lv_at hl 1 rfl) ?_
        refine gX_frameInterval hE hX hown hK hh dX0_makeEmpty_48 ?_
        refine zv_iconst hE dX0_makeEmpty_51 ?_
        refine zv_iconst hE dX0_makeEmpty_52 ?_
        refine sX_frameInterval hE hK hh ⟨by omega, by omega⟩ dX0_makeEmpty_53 (fun H locs hh => ?_)
        refine lv_aload_n hE.1 hE.2 dX0_makeEmpty_54 rfl (lv_at hl 1 rfl) ?_
        refine gX_frameKind hE hX hown hK hh dX0_makeEmpty_55 ?_
        refine zv_iconst hE dX0_makeEmpty_58 ?_
        refine zv_iconst hE dX0_makeEmpty_59 ?_
        refine sX_frameKind hE hK hh ⟨by omega, by omega⟩ dX0_makeEmpty_60 (fun H locs hh => ?_)
        refine lv_aload_n hE.1 hE.2 dX0_makeEmpty_61 rfl (lv_at hl 1 rfl) ?_
        refine gX_frameOpenBelow hE hX hown hK hh dX0_makeEmpty_62 ?_
        refine zv_iconst hE dX0_makeEmpty_65 ?_
        refine zv_iconst hE dX0_makeEmpty_66 ?_
        refine sX_frameOpenBelow hE hK hh ⟨by omega, by omega⟩ dX0_makeEmpty_67 (fun H locs hh => ?_)
        refine lv_aload_n hE.1 hE.2 dX0_makeEmpty_68 rfl (lv_at hl 1 rfl) ?_
        refine zv_iconst hE dX0_makeEmpty_69 ?_
        refine pX_frames hE hX hown hK hh dX0_makeEmpty_70 (fun H locs hh => ?_)
        refine lv_aload_n hE.1 hE.2 dX0_makeEmpty_73 rfl (lv_at hl 1 rfl) ?_
        refine zv_iconst hE dX0_makeEmpty_74 ?_
        refine pX_openOnes hE hX hown hK hh dX0_makeEmpty_75 (fun H locs hh => ?_)
        refine mc_retv (u := (ky, wt, sa1, ea, sm, ln, up_ fi 0 (-1), up_ fk 0 0, up_ fo 0 0, op, 0, 0, 0, 0, 0, 1, 0)) hE hr hlk hK hh dX0_makeEmpty_78 ?_
        exact ⟨sa1, fun j a b => hj j a (by omega), rfl⟩
      · refine lv_aload_n hE.1 hE.2 dX0_makeEmpty_9 rfl (lv_at hl 1 rfl) ?_
        refine gX_startAt hE hX hown hK hh dX0_makeEmpty_10 ?_
        refine lv_iload_n hE.1 hE.2 dX0_makeEmpty_13 rfl (lv_at hl 0 rfl) ?_
        refine zv_iconst hE dX0_makeEmpty_14 ?_
        refine sX_startAt hE hK hh ⟨by omega, by omega⟩ dX0_makeEmpty_15 (fun H locs hh => ?_)
        refine zv_iinc (lv' := [(1, .int (zi_ (i + 1))), (0, .ref (q 0))]) hE dX0_makeEmpty_16 hl (k := 0) rfl (by decide) rfl (fun ls hl => ?_)
        refine lv_goto (tgt := 2) hE.1 hE.2 dX0_makeEmpty_19 (by decide) ?_
        exact ih (i + 1) (up_ sa1 i (-1)) (by omega) (by omega) (by omega) (fun j x y => if hq : j = i then (by rw [hq]; exact up_s _ _ _) else (by rw [up_n hq]; exact hj j x (by omega))) _ _ hh ls (lv_sub hl [0, 1] rfl)
  refine zv_iconst hE dX0_makeEmpty_0 ?_
  refine lv_istore_n (lv' := [(1, .int (zi_ 0)), (0, .ref (q 0))]) hE.1 hE.2 dX0_makeEmpty_1 rfl hl (by decide) rfl (fun ls hl => ?_)
  exact loop_2 601 0 sa (by omega) (by omega) (by omega) (fun j x y => by omega) _ _ hh ls (lv_sub hl [0, 1] rfl)
set_option maxHeartbeats 400000 in
set_option maxRecDepth 100000 in
theorem kX_innermostAround (l : Launch) (dC : Nat → ClassId) (dI : Nat → Nat → Nat) (q : Nat → Nat) (cA : Nat → ClassId) (ky wt sa ea sm ln fi fk fo op : Int → Int) (ni ns ev cu wa fr oo : Int) (i : Int) (hw : pw_ sa ea ln ev) (h0 : 0 ≤ i) (h1 : i < 600) (hs : sa i ≠ -1) : mc_i l (dC, dI) vwCl (tX_ cA) (wX_ q cA) yX0_innermostAround wsX0_innermostAround ({ frames := 2, cells := 0, slots := 0, locals := 80 }) (ky, wt, sa, ea, sm, ln, fi, fk, fo, op, ni, ns, ev, cu, wa, fr, oo) [.ref (q 0), .int (zi_ i)] (fun (z : Int) (u : SX_) => u = (ky, wt, sa, ea, sm, ln, fi, fk, fo, op, ni, ns, ev, cu, wa, fr, oo) ∧ fl_ (fun k => ln k % 2 = 0 ∧ (ea (ln k / 2) = -1 ∨ sa i < ea (ln k / 2))) (fun k => ln k / 2) 0 (sa i) z) := by
  refine mc_i_of (cc := cX0_innermostAround) (maxL := 4) (ret := (some .int)) (by decide) rfl (Nat.le_of_ble_eq_true rfl) ?_
  intro p e s m below meth c A ls hE hml hown hts hr hlk hA hK hh hl
  have hown : s.vm.findClass RX0 = some m.cls := hown
  have hX : ∀ w ∈ wsX_, w.before _ s = true := fun w h => hts w (List.mem_cons_of_mem _ h)
  have hl : lv_has ls 4 [(0, .ref (q 0)), (1, .int (zi_ i))] := hl
  have w1 := hw.1
  have w2 := hw.2.1 i h0 h1
  have loop_9 : ∀ (n : Nat) (pl : Int), (-1 ≤ pl) → (pl < sa i) → (pl + 1 < (n : Int)) → (∀ k : Int, pl < k → k < sa i → ¬ (fun k => ln k % 2 = 0 ∧ (ea (ln k / 2) = -1 ∨ sa i < ea (ln k / 2))) k) → ∀ (H : Heap) (locs : List Loc), hp_ (dC, dI) vwCl A s.heap (wX_ q cA (ky, wt, sa, ea, sm, ln, fi, fk, fo, op, ni, ns, ev, cu, wa, fr, oo)) H locs → ∀ (ls : Array Slot), lv_has ls 4 [(2, .int (zi_ pl)), (1, .int (zi_ i)), (0, .ref (q 0))] → W p l e ({ frames := 2, cells := 0, slots := 0, locals := 80 }) s m ([.ref (q 0), .int (zi_ i)] : List Value).toArray below meth c H locs 0 0 (MQ below (mc_Qi (dC, dI) vwCl (tX_ cA) (wX_ q cA) (fun (z : Int) (u : SX_) => u = (ky, wt, sa, ea, sm, ln, fi, fk, fo, op, ni, ns, ev, cu, wa, fr, oo) ∧ fl_ (fun k => ln k % 2 = 0 ∧ (ea (ln k / 2) = -1 ∨ sa i < ea (ln k / 2))) (fun k => ln k / 2) 0 (sa i) z) A) ([.ref (q 0), .int (zi_ i)] : List Value).toArray s 0 0 A) (F0 m 9 ls []) := by
    intro n
    induction n with
    | zero => intros; exfalso; omega
    | succ n ih =>
      intro pl g0 g1 hn hj H locs hh ls hl
      refine lv_iload_n hE.1 hE.2 dX0_innermostAround_9 rfl (lv_at hl 0 rfl) ?_
      refine zv_if_lt (tgt := 65) hE dX0_innermostAround_10 (by decide) ⟨by omega, by omega⟩ (fun hc_1 => ?_) (fun hc_1 => ?_)
      · refine zv_iconst hE dX0_innermostAround_65 ?_
        refine mc_ret (u := (ky, wt, sa, ea, sm, ln, fi, fk, fo, op, ni, ns, ev, cu, wa, fr, oo)) hE hr hlk hK hh dX0_innermostAround_66 ?_
        refine ⟨rfl, ?_⟩
        first | exact Or.inr ⟨pl, by omega, by omega, ⟨by omega, by omega⟩, rfl, hj⟩ | exact Or.inl ⟨rfl, fun k a b => hj k (by omega) b⟩
      · refine lv_aload_n hE.1 hE.2 dX0_innermostAround_13 rfl (lv_at hl 2 rfl) ?_
        refine gX_line hE hX hown hK hh dX0_innermostAround_14 ?_
        refine lv_iload_n hE.1 hE.2 dX0_innermostAround_17 rfl (lv_at hl 0 rfl) ?_
        have hx2 := hw.2.2.2 pl (by omega) (by omega)
        refine rX_line hE hK hh ⟨by omega, by omega⟩ dX0_innermostAround_18 ?_
        refine zv_iconst hE dX0_innermostAround_19 ?_
        refine zv_half hE ⟨by omega, by omega⟩ dX0_innermostAround_20 ?_
        refine lv_istore_n (lv' := [(3, .int (zi_ ((ln pl) / 2))), (2, .int (zi_ pl)), (1, .int (zi_ i)), (0, .ref (q 0))]) hE.1 hE.2 dX0_innermostAround_21 rfl hl (by decide) rfl (fun ls hl => ?_)
        refine lv_aload_n hE.1 hE.2 dX0_innermostAround_22 rfl (lv_at hl 3 rfl) ?_
        refine gX_line hE hX hown hK hh dX0_innermostAround_23 ?_
        refine lv_iload_n hE.1 hE.2 dX0_innermostAround_26 rfl (lv_at hl 1 rfl) ?_
        refine rX_line hE hK hh ⟨by omega, by omega⟩ dX0_innermostAround_27 ?_
        refine mc_calls (rest := []) (As := [.int (zi_ (ln pl))]) hE hml hown hX hA hh (kX_isStart l (ln pl) (by omega) (by omega)) (cwS 1 hX qX_isStart rfl rfl rfl (by decide +kernel) ⟨Nat.le_of_ble_eq_true rfl, Nat.le_of_ble_eq_true rfl⟩) hl.1 rfl (Nat.le_of_ble_eq_true rfl) dX0_innermostAround_28 ⟨Nat.zero_le _, Nat.zero_le _⟩ rfl (fun z_3 H locs hq_2 hh => ?_)
        have hq_2z : zr_ z_3 := ⟨by omega, by omega⟩
        refine zv_if_eq (tgt := 59) hE dX0_innermostAround_31 (by decide) ⟨by omega, by omega⟩ (fun hc_4 => ?_) (fun hc_4 => ?_)
        · refine zv_iinc (lv' := [(2, .int (zi_ (pl + (-1)))), (3, .int (zi_ ((ln pl) / 2))), (1, .int (zi_ i)), (0, .ref (q 0))]) hE dX0_innermostAround_59 hl (k := 1) rfl (by decide) rfl (fun ls hl => ?_)
          refine lv_goto (tgt := 9) hE.1 hE.2 dX0_innermostAround_62 (by decide) ?_
          exact ih (pl + (-1)) (by omega) (by omega) (by omega) (fun k a b => if hq : k = pl then (by rw [hq]; intro hz; omega) else hj k (by omega) b) _ _ hh ls (lv_sub hl [0, 2, 3] rfl)
        · refine lv_aload_n hE.1 hE.2 dX0_innermostAround_34 rfl (lv_at hl 3 rfl) ?_
          refine lv_iload_n hE.1 hE.2 dX0_innermostAround_35 rfl (lv_at hl 0 rfl) ?_
          have hx6 : sa (ln pl / 2) ≠ -1 := by
            have t1 := hx2.2.2.1
            have t2 := hx2.2.2.2
            omega
          have hx7 := hw.2.2.1 (ln pl / 2) (by omega) (by omega) hx6
          refine mc_call (rest := []) (As := [.int (zi_ ((ln pl) / 2))]) hE hml hown hX hA hK hh (kX_isEnded l dC dI q cA ky wt sa ea sm ln fi fk fo op ni ns ev cu wa fr oo ((ln pl) / 2) (by omega) (by omega) (by first | assumption | exact ⟨by omega, by omega⟩)) (cwV 1 hX qX_isEnded rfl rfl rfl (by decide +kernel) ⟨Nat.le_of_ble_eq_true rfl, Nat.le_of_ble_eq_true rfl⟩) rfl rfl hl.1 rfl (Nat.le_of_ble_eq_true rfl) dX0_innermostAround_36 ⟨Nat.zero_le _, Nat.zero_le _⟩ rfl (fun z_6 u H locs hq_5 hh => ?_)
          obtain ⟨rfl, hq_5⟩ := hq_5
          refine zv_if_eq (tgt := 57) hE dX0_innermostAround_39 (by decide) ⟨by omega, by omega⟩ (fun hc_7 => ?_) (fun hc_7 => ?_)
          · refine lv_iload_n hE.1 hE.2 dX0_innermostAround_57 rfl (lv_at hl 0 rfl) ?_
            refine mc_ret (u := (ky, wt, sa, ea, sm, ln, fi, fk, fo, op, ni, ns, ev, cu, wa, fr, oo)) hE hr hlk hK hh dX0_innermostAround_58 ?_
            refine ⟨rfl, ?_⟩
            first | exact Or.inr ⟨pl, by omega, by omega, ⟨by omega, by omega⟩, rfl, hj⟩ | exact Or.inl ⟨rfl, fun k a b => hj k (by omega) b⟩
          · refine lv_aload_n hE.1 hE.2 dX0_innermostAround_42 rfl (lv_at hl 3 rfl) ?_
            refine gX_endAt hE hX hown hK hh dX0_innermostAround_43 ?_
            refine lv_iload_n hE.1 hE.2 dX0_innermostAround_46 rfl (lv_at hl 0 rfl) ?_
            refine rX_endAt hE hK hh ⟨by omega, by omega⟩ dX0_innermostAround_47 ?_
            refine lv_aload_n hE.1 hE.2 dX0_innermostAround_48 rfl (lv_at hl 3 rfl) ?_
            refine gX_startAt hE hX hown hK hh dX0_innermostAround_49 ?_
            refine lv_iload_n hE.1 hE.2 dX0_innermostAround_52 rfl (lv_at hl 2 rfl) ?_
            refine rX_startAt hE hK hh ⟨by omega, by omega⟩ dX0_innermostAround_53 ?_
            refine zv_icmp_le (tgt := 59) hE dX0_innermostAround_54 (by decide) ⟨by omega, by omega⟩ ⟨by omega, by omega⟩ (fun hc_8 => ?_) (fun hc_8 => ?_)
            · refine zv_iinc (lv' := [(2, .int (zi_ (pl + (-1)))), (3, .int (zi_ ((ln pl) / 2))), (1, .int (zi_ i)), (0, .ref (q 0))]) hE dX0_innermostAround_59 hl (k := 1) rfl (by decide) rfl (fun ls hl => ?_)
              refine lv_goto (tgt := 9) hE.1 hE.2 dX0_innermostAround_62 (by decide) ?_
              exact ih (pl + (-1)) (by omega) (by omega) (by omega) (fun k a b => if hq : k = pl then (by rw [hq]; intro hz; omega) else hj k (by omega) b) _ _ hh ls (lv_sub hl [0, 2, 3] rfl)
            · refine lv_iload_n hE.1 hE.2 dX0_innermostAround_57 rfl (lv_at hl 0 rfl) ?_
              refine mc_ret (u := (ky, wt, sa, ea, sm, ln, fi, fk, fo, op, ni, ns, ev, cu, wa, fr, oo)) hE hr hlk hK hh dX0_innermostAround_58 ?_
              refine ⟨rfl, ?_⟩
              first | exact Or.inr ⟨pl, by omega, by omega, ⟨by omega, by omega⟩, rfl, hj⟩ | exact Or.inl ⟨rfl, fun k a b => hj k (by omega) b⟩
  refine lv_aload_n hE.1 hE.2 dX0_innermostAround_0 rfl (lv_at hl 0 rfl) ?_
  refine gX_startAt hE hX hown hK hh dX0_innermostAround_1 ?_
  refine lv_iload_n hE.1 hE.2 dX0_innermostAround_4 rfl (lv_at hl 1 rfl) ?_
  refine rX_startAt hE hK hh ⟨by omega, by omega⟩ dX0_innermostAround_5 ?_
  refine zv_iconst hE dX0_innermostAround_6 ?_
  refine zv_isub hE dX0_innermostAround_7 ?_
  refine lv_istore_n (lv' := [(2, .int (zi_ ((sa i) - 1))), (0, .ref (q 0)), (1, .int (zi_ i))]) hE.1 hE.2 dX0_innermostAround_8 rfl hl (by decide) rfl (fun ls hl => ?_)
  exact loop_9 1300 (sa i - 1) (by omega) (by omega) (by omega) (fun k a b => by omega) _ _ hh ls (lv_sub hl [0, 2, 1] rfl)
set_option maxHeartbeats 400000 in
set_option maxRecDepth 100000 in
theorem kX_weightWithin (l : Launch) (dC : Nat → ClassId) (dI : Nat → Nat → Nat) (q : Nat → Nat) (cA : Nat → ClassId) (ky wt sa ea sm ln fi fk fo op : Int → Int) (ni ns ev cu wa fr oo : Int) (i : Int) (hw : pw_ sa ea ln ev) (h0 : 0 ≤ i) (h1 : i < 600) (hs : sa i ≠ -1) : mc_i l (dC, dI) vwCl (tX_ cA) (wX_ q cA) yX0_weightWithin wsX0_weightWithin ({ frames := 2, cells := 0, slots := 0, locals := 80 }) (ky, wt, sa, ea, sm, ln, fi, fk, fo, op, ni, ns, ev, cu, wa, fr, oo) [.ref (q 0), .int (zi_ i)] (fun (z : Int) (u : SX_) => u = (ky, wt, sa, ea, sm, ln, fi, fk, fo, op, ni, ns, ev, cu, wa, fr, oo) ∧ z = st_ (we_ ln wt) (sa i) (ut_ ea ev i - sa i).toNat) := by
  refine mc_i_of (cc := cX0_weightWithin) (maxL := 5) (ret := (some .int)) (by decide) rfl (Nat.le_of_ble_eq_true rfl) ?_
  intro p e s m below meth c A ls hE hml hown hts hr hlk hA hK hh hl
  have hown : s.vm.findClass RX0 = some m.cls := hown
  have hX : ∀ w ∈ wsX_, w.before _ s = true := fun w h => hts w (List.mem_cons_of_mem _ h)
  have hl : lv_has ls 5 [(0, .ref (q 0)), (1, .int (zi_ i))] := hl
  have w1 := hw.1
  have w2 := hw.2.1 i h0 h1
  have w3 := hw.2.2.1 i h0 h1 hs
  have loop_32 : ∀ (n : Nat) (pl sm1 ut : Int), (sa i ≤ pl) → (pl ≤ ut) → (ut - pl < (n : Int)) → (ut = ut_ ea ev i) → (ut ≤ ev) → (sm1 = st_ (we_ ln wt) (sa i) (pl - sa i).toNat) → ∀ (H : Heap) (locs : List Loc), hp_ (dC, dI) vwCl A s.heap (wX_ q cA (ky, wt, sa, ea, sm, ln, fi, fk, fo, op, ni, ns, ev, cu, wa, fr, oo)) H locs → ∀ (ls : Array Slot), lv_has ls 5 [(4, .int (zi_ pl)), (3, .int (zi_ sm1)), (2, .int (zi_ ut)), (1, .int (zi_ i)), (0, .ref (q 0))] → W p l e ({ frames := 2, cells := 0, slots := 0, locals := 80 }) s m ([.ref (q 0), .int (zi_ i)] : List Value).toArray below meth c H locs 0 0 (MQ below (mc_Qi (dC, dI) vwCl (tX_ cA) (wX_ q cA) (fun (z : Int) (u : SX_) => u = (ky, wt, sa, ea, sm, ln, fi, fk, fo, op, ni, ns, ev, cu, wa, fr, oo) ∧ z = st_ (we_ ln wt) (sa i) (ut_ ea ev i - sa i).toNat) A) ([.ref (q 0), .int (zi_ i)] : List Value).toArray s 0 0 A) (F0 m 32 ls []) := by
    intro n
    induction n with
    | zero => intros; exfalso; omega
    | succ n ih =>
      intro pl sm1 ut g0 g1 hn hut hu2 hsum H locs hh ls hl
      refine lv_iload hE.1 hE.2 dX0_weightWithin_32 (lv_at hl 0 rfl) ?_
      refine lv_iload_n hE.1 hE.2 dX0_weightWithin_34 rfl (lv_at hl 2 rfl) ?_
      refine zv_icmp_ge (tgt := 74) hE dX0_weightWithin_35 (by decide) ⟨by omega, by omega⟩ ⟨by omega, by omega⟩ (fun hc_1 => ?_) (fun hc_1 => ?_)
      · refine lv_iload_n hE.1 hE.2 dX0_weightWithin_74 rfl (lv_at hl 1 rfl) ?_
        refine mc_ret (u := (ky, wt, sa, ea, sm, ln, fi, fk, fo, op, ni, ns, ev, cu, wa, fr, oo)) hE hr hlk hK hh dX0_weightWithin_75 ?_
        exact ⟨rfl, by rw [hsum, ← hut, show pl = ut by omega]⟩
      · refine lv_aload_n hE.1 hE.2 dX0_weightWithin_38 rfl (lv_at hl 4 rfl) ?_
        refine gX_line hE hX hown hK hh dX0_weightWithin_39 ?_
        refine lv_iload hE.1 hE.2 dX0_weightWithin_42 (lv_at hl 0 rfl) ?_
        have hx2 := hw.2.2.2 pl (by omega) (by omega)
        refine rX_line hE hK hh ⟨by omega, by omega⟩ dX0_weightWithin_44 ?_
        refine mc_calls (rest := []) (As := [.int (zi_ (ln pl))]) hE hml hown hX hA hh (kX_isStart l (ln pl) (by omega) (by omega)) (cwS 1 hX qX_isStart rfl rfl rfl (by decide +kernel) ⟨Nat.le_of_ble_eq_true rfl, Nat.le_of_ble_eq_true rfl⟩) hl.1 rfl (Nat.le_of_ble_eq_true rfl) dX0_weightWithin_45 ⟨Nat.zero_le _, Nat.zero_le _⟩ rfl (fun z_3 H locs hq_2 hh => ?_)
        have hq_2z : zr_ z_3 := ⟨by omega, by omega⟩
        refine zv_if_eq (tgt := 68) hE dX0_weightWithin_48 (by decide) ⟨by omega, by omega⟩ (fun hc_4 => ?_) (fun hc_4 => ?_)
        · refine zv_iinc (lv' := [(4, .int (zi_ (pl + 1))), (3, .int (zi_ sm1)), (2, .int (zi_ ut)), (1, .int (zi_ i)), (0, .ref (q 0))]) hE dX0_weightWithin_68 hl (k := 0) rfl (by decide) rfl (fun ls hl => ?_)
          refine lv_goto (tgt := 32) hE.1 hE.2 dX0_weightWithin_71 (by decide) ?_
          exact ih (pl + 1) sm1 ut (by omega) (by omega) (by omega) hut hu2 (by rw [st_go g0, ← hsum]; unfold we_; first | rw [if_pos (by omega)] | (rw [if_neg (by omega)]; omega)) _ _ hh ls (lv_sub hl [0, 1, 2, 3, 4] rfl)
        · refine lv_iload_n hE.1 hE.2 dX0_weightWithin_51 rfl (lv_at hl 1 rfl) ?_
          refine lv_aload_n hE.1 hE.2 dX0_weightWithin_52 rfl (lv_at hl 4 rfl) ?_
          refine gX_weights hE hX hown hK hh dX0_weightWithin_53 ?_
          refine lv_aload_n hE.1 hE.2 dX0_weightWithin_56 rfl (lv_at hl 4 rfl) ?_
          refine gX_line hE hX hown hK hh dX0_weightWithin_57 ?_
          refine lv_iload hE.1 hE.2 dX0_weightWithin_60 (lv_at hl 0 rfl) ?_
          refine rX_line hE hK hh ⟨by omega, by omega⟩ dX0_weightWithin_62 ?_
          refine zv_iconst hE dX0_weightWithin_63 ?_
          refine zv_half hE ⟨by omega, by omega⟩ dX0_weightWithin_64 ?_
          refine rX_weights hE hK hh ⟨by omega, by omega⟩ dX0_weightWithin_65 ?_
          refine zv_iadd hE dX0_weightWithin_66 ?_
          refine lv_istore_n (lv' := [(3, .int (zi_ (sm1 + (wt ((ln pl) / 2))))), (4, .int (zi_ pl)), (2, .int (zi_ ut)), (1, .int (zi_ i)), (0, .ref (q 0))]) hE.1 hE.2 dX0_weightWithin_67 rfl hl (by decide) rfl (fun ls hl => ?_)
          refine zv_iinc (lv' := [(4, .int (zi_ (pl + 1))), (3, .int (zi_ (sm1 + (wt ((ln pl) / 2))))), (2, .int (zi_ ut)), (1, .int (zi_ i)), (0, .ref (q 0))]) hE dX0_weightWithin_68 hl (k := 1) rfl (by decide) rfl (fun ls hl => ?_)
          refine lv_goto (tgt := 32) hE.1 hE.2 dX0_weightWithin_71 (by decide) ?_
          exact ih (pl + 1) (sm1 + (wt ((ln pl) / 2))) ut (by omega) (by omega) (by omega) hut hu2 (by rw [st_go g0, ← hsum]; unfold we_; first | rw [if_pos (by omega)] | (rw [if_neg (by omega)]; omega)) _ _ hh ls (lv_sub hl [0, 1, 2, 3, 4] rfl)
  refine lv_aload_n hE.1 hE.2 dX0_weightWithin_0 rfl (lv_at hl 0 rfl) ?_
  refine lv_iload_n hE.1 hE.2 dX0_weightWithin_1 rfl (lv_at hl 1 rfl) ?_
  refine mc_call (rest := []) (As := [.int (zi_ i)]) hE hml hown hX hA hK hh (kX_isEnded l dC dI q cA ky wt sa ea sm ln fi fk fo op ni ns ev cu wa fr oo i (by omega) (by omega) (by first | assumption | exact ⟨by omega, by omega⟩)) (cwV 1 hX qX_isEnded rfl rfl rfl (by decide +kernel) ⟨Nat.le_of_ble_eq_true rfl, Nat.le_of_ble_eq_true rfl⟩) rfl rfl hl.1 rfl (Nat.le_of_ble_eq_true rfl) dX0_weightWithin_2 ⟨Nat.zero_le _, Nat.zero_le _⟩ rfl (fun z_6 u H locs hq_5 hh => ?_)
  obtain ⟨rfl, hq_5⟩ := hq_5
  refine zv_if_eq (tgt := 17) hE dX0_weightWithin_5 (by decide) ⟨by omega, by omega⟩ (fun hc_7 => ?_) (fun hc_7 => ?_)
  · refine lv_aload_n hE.1 hE.2 dX0_weightWithin_17 rfl (lv_at hl 0 rfl) ?_
    refine gX_events hE hX hown hK hh dX0_weightWithin_18 ?_
    refine lv_istore_n (lv' := [(2, .int (zi_ ev)), (0, .ref (q 0)), (1, .int (zi_ i))]) hE.1 hE.2 dX0_weightWithin_21 rfl hl (by decide) rfl (fun ls hl => ?_)
    refine zv_iconst hE dX0_weightWithin_22 ?_
    refine lv_istore_n (lv' := [(3, .int (zi_ 0)), (2, .int (zi_ ev)), (0, .ref (q 0)), (1, .int (zi_ i))]) hE.1 hE.2 dX0_weightWithin_23 rfl hl (by decide) rfl (fun ls hl => ?_)
    refine lv_aload_n hE.1 hE.2 dX0_weightWithin_24 rfl (lv_at hl 2 rfl) ?_
    refine gX_startAt hE hX hown hK hh dX0_weightWithin_25 ?_
    refine lv_iload_n hE.1 hE.2 dX0_weightWithin_28 rfl (lv_at hl 3 rfl) ?_
    refine rX_startAt hE hK hh ⟨by omega, by omega⟩ dX0_weightWithin_29 ?_
    refine lv_istore (lv' := [(4, .int (zi_ (sa i))), (3, .int (zi_ 0)), (2, .int (zi_ ev)), (0, .ref (q 0)), (1, .int (zi_ i))]) hE.1 hE.2 dX0_weightWithin_30 hl (by decide) rfl (fun ls hl => ?_)
    exact loop_32 1300 (sa i) 0 ev (by omega) (by omega) (by omega) (by unfold ut_; first | rw [if_pos (by omega)] | rw [if_neg (by omega)]) (by omega) (by rw [show (sa i - sa i).toNat = 0 by omega]; rfl) _ _ hh ls (lv_sub hl [0, 1, 2, 4, 3] rfl)
  · refine lv_aload_n hE.1 hE.2 dX0_weightWithin_8 rfl (lv_at hl 0 rfl) ?_
    refine gX_endAt hE hX hown hK hh dX0_weightWithin_9 ?_
    refine lv_iload_n hE.1 hE.2 dX0_weightWithin_12 rfl (lv_at hl 1 rfl) ?_
    refine rX_endAt hE hK hh ⟨by omega, by omega⟩ dX0_weightWithin_13 ?_
    refine lv_goto (tgt := 21) hE.1 hE.2 dX0_weightWithin_14 (by decide) ?_
    refine lv_istore_n (lv' := [(2, .int (zi_ (ea i))), (0, .ref (q 0)), (1, .int (zi_ i))]) hE.1 hE.2 dX0_weightWithin_21 rfl hl (by decide) rfl (fun ls hl => ?_)
    refine zv_iconst hE dX0_weightWithin_22 ?_
    refine lv_istore_n (lv' := [(3, .int (zi_ 0)), (2, .int (zi_ (ea i))), (0, .ref (q 0)), (1, .int (zi_ i))]) hE.1 hE.2 dX0_weightWithin_23 rfl hl (by decide) rfl (fun ls hl => ?_)
    refine lv_aload_n hE.1 hE.2 dX0_weightWithin_24 rfl (lv_at hl 2 rfl) ?_
    refine gX_startAt hE hX hown hK hh dX0_weightWithin_25 ?_
    refine lv_iload_n hE.1 hE.2 dX0_weightWithin_28 rfl (lv_at hl 3 rfl) ?_
    refine rX_startAt hE hK hh ⟨by omega, by omega⟩ dX0_weightWithin_29 ?_
    refine lv_istore (lv' := [(4, .int (zi_ (sa i))), (3, .int (zi_ 0)), (2, .int (zi_ (ea i))), (0, .ref (q 0)), (1, .int (zi_ i))]) hE.1 hE.2 dX0_weightWithin_30 hl (by decide) rfl (fun ls hl => ?_)
    exact loop_32 1300 (sa i) 0 (ea i) (by omega) (by omega) (by omega) (by unfold ut_; first | rw [if_pos (by omega)] | rw [if_neg (by omega)]) (by omega) (by rw [show (sa i - sa i).toNat = 0 by omega]; rfl) _ _ hh ls (lv_sub hl [0, 1, 2, 4, 3] rfl)
end
section
/-- what holds of the class's state between two calls -/
def ix_ (ky wt sa ea sm ln fi fk fo op : Int → Int) (ni ns ev cu wa fr oo K : Int) : Prop :=
  pw_ sa ea ln ev ∧ nv_ sa ea cu fi fo fr op oo ∧ ct_ sa sm wt ni ns wa K ∧ (1 ≤ fr ∧ fr ≤ 64 ∧ fi 0 = -1 ∧ fk 0 = 0 ∧ fo 0 = 0) ∧
  (∀ f : Int, 1 ≤ f → f < fr → fk f = 1 ∨ fk f = 2) ∧ (∀ f : Int, 0 ≤ f → f < fr → 0 ≤ fo f ∧ fo f ≤ oo) ∧ (∀ f : Int, 0 ≤ f → f + 1 < fr → fo f ≤ fo (f + 1)) ∧
  (0 ≤ cu ∧ cu ≤ ev ∧ ev < 1200 ∧ 0 ≤ oo ∧ oo < 600) ∧ (∀ j : Int, 0 ≤ j → j < 600 → sm j = 0 ∨ sm j = 1) ∧ (∀ j : Int, 0 ≤ j → j < 600 → zr_ (ky j)) ∧
  (∀ j : Int, 0 ≤ j → j < 600 → 0 ≤ wt j) ∧ (0 ≤ K ∧ wa ≤ 1000000000) ∧ (∀ j : Int, 0 ≤ j → j < 600 → sa j ≠ -1 → sm j = 1 → ea j ≠ -1)
theorem ix_f {ky wt sa ea sm ln fi fk fo op : Int → Int} {ni ns ev cu wa fr oo K : Int} (h : ix_ ky wt sa ea sm ln fi fk fo op ni ns ev cu wa fr oo K) :
    (-1 ≤ fi (fr - 1) ∧ fi (fr - 1) < 600) ∧ (0 ≤ fo (fr - 1) ∧ fo (fr - 1) ≤ 600) ∧ fo (fr - 1) ≤ oo ∧ cu ≤ lm_ fi ea ev fr ∧ lm_ fi ea ev fr ≤ ev ∧ (fi (fr - 1) = -1 ↔ fr = 1) ∧ (fk (fr - 1) = 0 ∨ fk (fr - 1) = 1 ∨ fk (fr - 1) = 2) ∧ (fk (fr - 1) = 0 ↔ fr = 1) ∧ (fo (fr - 1) < oo → 0 ≤ op (oo - 1) ∧ op (oo - 1) < 600) ∧ 0 ≤ wa ∧ (1 < fr → sa (fi (fr - 1)) ≠ -1 ∧ ea (fi (fr - 1)) ≠ -1 ∧ cu ≤ ea (fi (fr - 1)) ∧ ea (fi (fr - 1)) < ev) := by
  obtain ⟨hw, ⟨n1, n2, n3, n4, n5, n6, n7⟩, hct, ⟨hf1, hf2, hi0, hk0, ho0⟩, hkd, hfo, hfm, ⟨hc0, hc3, hev, ho1, ho2⟩, hsm, hky, hwt, ⟨hK0, hwa⟩, hse⟩ := h
  have hwa0 : 0 ≤ wa := by
    obtain ⟨-, -, c3⟩ := hct
    have := sg_nn (g := cw_ sa wt) 600 (fun j h0 h1 => by
      unfold cw_
      by_cases hq : sa j = -1
      · rw [if_pos hq]; omega
      · rw [if_neg hq]; exact hwt j h0 h1)
    omega
  have a1 := hfo (fr - 1) (by omega) (by omega)
  have a2 : fo (fr - 1) < oo → 0 ≤ op (oo - 1) ∧ op (oo - 1) < 600 := fun h => ⟨(n5 (oo - 1) (by omega) (by omega)).1, (n5 (oo - 1) (by omega) (by omega)).2.1⟩
  by_cases h1 : fr = 1
  · have e1 : fr - 1 = 0 := by omega
    have e2 : lm_ fi ea ev fr = ev := by unfold lm_; rw [e1, if_pos hi0]
    rw [e2, e1, hi0, hk0, ho0]
    exact ⟨by omega, by omega, by omega, hc3, by omega, ⟨fun _ => h1, fun _ => rfl⟩, Or.inl rfl, ⟨fun _ => h1, fun _ => rfl⟩, fun h => a2 (by rw [e1, ho0]; exact h), hwa0, fun h => by omega⟩
  · obtain ⟨b1, b2, b3, b4⟩ := n2 (fr - 1) (by omega) (by omega)
    have b5 := n4 (by omega)
    have b6 := hkd (fr - 1) (by omega) (by omega)
    have b7 := hw.2.2.1 (fi (fr - 1)) b1 b2 b3
    have e2 : lm_ fi ea ev fr = ea (fi (fr - 1)) := by unfold lm_; rw [if_neg (by omega)]
    rw [e2]
    exact ⟨by omega, by omega, by omega, by omega, by omega, ⟨fun h => by omega, fun h => absurd h h1⟩, by omega, ⟨fun h => by omega, fun h => absurd h h1⟩, a2, hwa0, fun _ => ⟨b3, b4, b5.2, by omega⟩⟩
theorem pw_ea {sa ea ln : Int → Int} {ev i v : Int} (h : pw_ sa ea ln ev) (hi : sa i = -1) : pw_ sa (up_ ea i v) ln ev := by
  obtain ⟨a1, a2, a3, a4⟩ := h
  refine ⟨a1, a2, fun j x y n => ?_, fun k x y => ?_⟩
  · rw [up_n (fun q => n (by rw [q]; exact hi))]; exact a3 j x y n
  · obtain ⟨c1, c2, c3, c4⟩ := a4 k x y
    refine ⟨c1, c2, c3, fun he => ⟨(c4 he).1, ?_⟩⟩
    rw [up_n (fun q => (c4 he).1 (by rw [q]; exact hi))]; exact (c4 he).2
section ZT
variable {p : Program} {l : Launch} {e : Env} {R : Room} {s : State} {m : MethodId} {args : Array Value} {below : List Frame} {meth : Method} {c : Code} {H : Heap} {locs : List Loc} {cells slots : Nat} {Q : State → Prop}
variable {cc : ByteArray} {pc : Nat} {ls : Array Slot} {rest : List Value}
theorem zv_tblIn (hE : ze_ p c cc) {dflt lo hi : Int} {offs : Array Int} {len : Nat} {x : Int} {off : Int} {tgt : Nat} (hdg : decode cc pc = .ok (.tableswitch dflt lo hi offs, len)) (hz : zr_ x) (h1 : lo ≤ x) (h2 : x ≤ hi) (ho : offs[(x - lo).toNat]? = some off) (ht : (pc : Int) + off = (tgt : Int))
    (k : W p l e R s m args below meth c H locs cells slots Q (F0 m tgt ls rest)) : W p l e R s m args below meth c H locs cells slots Q (F0 m pc ls (.int (zi_ x) :: rest)) :=
  lv_tableIn hE.1 hE.2 hdg (by rw [zi_toInt hz]; omega) (by rw [zi_toInt hz]; omega) (by rw [zi_toInt hz]; exact ho) ht k
theorem zv_tblOut (hE : ze_ p c cc) {dflt lo hi : Int} {offs : Array Int} {len : Nat} {x : Int} {tgt : Nat} (hdg : decode cc pc = .ok (.tableswitch dflt lo hi offs, len)) (hz : zr_ x) (h : x < lo ∨ hi < x) (ht : (pc : Int) + dflt = (tgt : Int))
    (k : W p l e R s m args below meth c H locs cells slots Q (F0 m tgt ls rest)) : W p l e R s m args below meth c H locs cells slots Q (F0 m pc ls (.int (zi_ x) :: rest)) :=
  lv_tableOut hE.1 hE.2 hdg (by rw [zi_toInt hz]; exact h) ht k
end ZT
end
section
set_option maxHeartbeats 400000 in
set_option maxRecDepth 100000 in
theorem kX_begin (l : Launch) (dC : Nat → ClassId) (dI : Nat → Nat → Nat) (q : Nat → Nat) (cA : Nat → ClassId) (ky wt sa ea sm ln fi fk fo op : Int → Int) (ni ns ev cu wa fr oo : Int) (key : Int) (K : Int) (hI : ix_ ky wt sa ea sm ln fi fk fo op ni ns ev cu wa fr oo K) (hk9 : zr_ key) : mc_i l (dC, dI) vwCl (tX_ cA) (wX_ q cA) yX0_begin wsX0_begin ({ frames := 4, cells := 0, slots := 0, locals := 160 }) (ky, wt, sa, ea, sm, ln, fi, fk, fo, op, ni, ns, ev, cu, wa, fr, oo) [.ref (q 0), .int (zi_ key)] (fun (z : Int) (u : SX_) => (z = -1 ∧ u = (ky, wt, sa, ea, sm, ln, fi, fk, fo, op, ni, ns, ev, cu, wa, fr, oo) ∧ (fk (fr - 1) = 2 ∨ ∀ j : Int, 0 ≤ j → j < 600 → sa j ≠ -1)) ∨ (0 ≤ z ∧ z < 600 ∧ sa z = -1 ∧ (∀ j : Int, 0 ≤ j → j < z → sa j ≠ -1) ∧ fk (fr - 1) ≠ 2 ∧ ∃ sa1 ea1 ln1 : Int → Int, pu_ sa (up_ ea z (-1)) ln ev cu sa1 ea1 ln1 ∧ u = (up_ ky z key, up_ wt z 0, up_ sa1 (2 * z / 2) cu, ea1, up_ sm z 0, up_ ln1 cu (2 * z), fi, fk, fo, up_ op oo z, ni + 1, ns, ev + 1, cu + 1, wa, fr, oo + 1))) := by
  refine mc_i_of (cc := cX0_begin) (maxL := 3) (ret := (some .int)) (by decide) rfl (Nat.le_of_ble_eq_true rfl) ?_
  intro p e s m below meth c A ls hE hml hown hts hr hlk hA hK hh hl
  have hown : s.vm.findClass RX0 = some m.cls := hown
  have hX : ∀ w ∈ wsX_, w.before _ s = true := fun w h => hts w (List.mem_cons_of_mem _ h)
  have hl : lv_has ls 3 [(0, .ref (q 0)), (1, .int (zi_ key))] := hl
  obtain ⟨hf5, hf3, hf8, hc1, hc2, hfe, hkk, hk1, hf6, hwa0, hlst⟩ := ix_f hI
  obtain ⟨hw, hnv, hct, ⟨hf1, hf2, hi0, hk0, ho0⟩, hkd, hfo, hfm, ⟨hc0, hc3, hev, ho1, ho2⟩, hsm, hky, hwt, ⟨hK0, hwa⟩, hse⟩ := hI
  have hf4 : 0 ≤ oo ∧ oo ≤ 600 := ⟨ho1, by omega⟩
  refine lv_aload_n hE.1 hE.2 dX0_begin_0 rfl (lv_at hl 0 rfl) ?_
  refine mc_call (rest := []) (As := []) hE hml hown hX hA hK hh (kX_leastFreeNumber l dC dI q cA ky wt sa ea sm ln fi fk fo op ni ns ev cu wa fr oo (fun j a b => pw_zr hw a b)) (cwV 0 hX qX_leastFreeNumber rfl rfl rfl (by decide +kernel) ⟨Nat.le_of_ble_eq_true rfl, Nat.le_of_ble_eq_true rfl⟩) rfl rfl hl.1 rfl (Nat.le_of_ble_eq_true rfl) dX0_begin_1 ⟨Nat.zero_le _, Nat.zero_le _⟩ rfl (fun z_2 u H locs hq_1 hh => ?_)
  obtain ⟨rfl, hq_1⟩ := hq_1
  rcases hq_1 with ⟨rfl, hzn⟩ | ⟨hz0, hz1, hz2, hz3⟩
  · refine lv_istore_n (lv' := [(2, .int (zi_ (-1))), (0, .ref (q 0)), (1, .int (zi_ key))]) hE.1 hE.2 dX0_begin_4 rfl hl (by decide) rfl (fun ls hl => ?_)
    refine lv_iload_n hE.1 hE.2 dX0_begin_5 rfl (lv_at hl 0 rfl) ?_
    refine zv_iconst hE dX0_begin_6 ?_
    refine zv_icmp_eq (tgt := 28) hE dX0_begin_7 (by decide) ⟨by omega, by omega⟩ ⟨by omega, by omega⟩ (fun hc_3 => ?_) (fun hc_3 => ?_)
    · refine zv_iconst hE dX0_begin_28 ?_
      refine mc_ret (u := (ky, wt, sa, ea, sm, ln, fi, fk, fo, op, ni, ns, ev, cu, wa, fr, oo)) hE hr hlk hK hh dX0_begin_29 ?_
      first | exact Or.inl ⟨rfl, rfl, Or.inr hzn⟩ | exact Or.inl ⟨rfl, rfl, Or.inl (by assumption)⟩ | exact Or.inr ⟨hz0, hz1, hz2, hz3, by assumption, sa1, ea1, ln1, hpu, rfl⟩ | exact absurd hz0 (by omega)
    · exact absurd hc_3 (by decide)
  · refine lv_istore_n (lv' := [(2, .int (zi_ z_2)), (0, .ref (q 0)), (1, .int (zi_ key))]) hE.1 hE.2 dX0_begin_4 rfl hl (by decide) rfl (fun ls hl => ?_)
    refine lv_iload_n hE.1 hE.2 dX0_begin_5 rfl (lv_at hl 0 rfl) ?_
    refine zv_iconst hE dX0_begin_6 ?_
    refine zv_icmp_eq (tgt := 28) hE dX0_begin_7 (by decide) ⟨by omega, by omega⟩ ⟨by omega, by omega⟩ (fun hc_4 => ?_) (fun hc_4 => ?_)
    · refine zv_iconst hE dX0_begin_28 ?_
      refine mc_ret (u := (ky, wt, sa, ea, sm, ln, fi, fk, fo, op, ni, ns, ev, cu, wa, fr, oo)) hE hr hlk hK hh dX0_begin_29 ?_
      first | exact Or.inl ⟨rfl, rfl, Or.inr hzn⟩ | exact Or.inl ⟨rfl, rfl, Or.inl (by assumption)⟩ | exact Or.inr ⟨hz0, hz1, hz2, hz3, by assumption, sa1, ea1, ln1, hpu, rfl⟩ | exact absurd hz0 (by omega)
    · refine lv_aload_n hE.1 hE.2 dX0_begin_10 rfl (lv_at hl 1 rfl) ?_
      refine mc_call (rest := []) (As := []) hE hml hown hX hA hK hh (kX_lastKind l dC dI q cA ky wt sa ea sm ln fi fk fo op ni ns ev cu wa fr oo hf1 hf2) (cwV 0 hX qX_lastKind rfl rfl rfl (by decide +kernel) ⟨Nat.le_of_ble_eq_true rfl, Nat.le_of_ble_eq_true rfl⟩) rfl rfl hl.1 rfl (Nat.le_of_ble_eq_true rfl) dX0_begin_11 ⟨Nat.zero_le _, Nat.zero_le _⟩ rfl (fun z_6 u H locs hq_5 hh => ?_)
      obtain ⟨rfl, rfl⟩ := hq_5
      refine zv_iconst hE dX0_begin_14 ?_
      refine zv_icmp_eq (tgt := 28) hE dX0_begin_15 (by decide) ⟨by omega, by omega⟩ ⟨by omega, by omega⟩ (fun hc_7 => ?_) (fun hc_7 => ?_)
      · refine zv_iconst hE dX0_begin_28 ?_
        refine mc_ret (u := (ky, wt, sa, ea, sm, ln, fi, fk, fo, op, ni, ns, ev, cu, wa, fr, oo)) hE hr hlk hK hh dX0_begin_29 ?_
        first | exact Or.inl ⟨rfl, rfl, Or.inr hzn⟩ | exact Or.inl ⟨rfl, rfl, Or.inl (by assumption)⟩ | exact Or.inr ⟨hz0, hz1, hz2, hz3, by assumption, sa1, ea1, ln1, hpu, rfl⟩ | exact absurd hz0 (by omega)
      · refine lv_aload_n hE.1 hE.2 dX0_begin_18 rfl (lv_at hl 1 rfl) ?_
        refine gX_openOnes hE hX hown hK hh dX0_begin_19 ?_
        refine zv_sipush hE dX0_begin_22 (by decide) ?_
        refine zv_icmp_lt (tgt := 30) hE dX0_begin_25 (by decide) ⟨by omega, by omega⟩ ⟨by omega, by omega⟩ (fun hc_8 => ?_) (fun hc_8 => ?_)
        · refine lv_aload_n hE.1 hE.2 dX0_begin_30 rfl (lv_at hl 1 rfl) ?_
          refine gX_keys hE hX hown hK hh dX0_begin_31 ?_
          refine lv_iload_n hE.1 hE.2 dX0_begin_34 rfl (lv_at hl 0 rfl) ?_
          refine lv_iload_n hE.1 hE.2 dX0_begin_35 rfl (lv_at hl 2 rfl) ?_
          refine sX_keys hE hK hh ⟨by omega, by omega⟩ dX0_begin_36 (fun H locs hh => ?_)
          refine lv_aload_n hE.1 hE.2 dX0_begin_37 rfl (lv_at hl 1 rfl) ?_
          refine gX_weights hE hX hown hK hh dX0_begin_38 ?_
          refine lv_iload_n hE.1 hE.2 dX0_begin_41 rfl (lv_at hl 0 rfl) ?_
          refine zv_iconst hE dX0_begin_42 ?_
          refine sX_weights hE hK hh ⟨by omega, by omega⟩ dX0_begin_43 (fun H locs hh => ?_)
          refine lv_aload_n hE.1 hE.2 dX0_begin_44 rfl (lv_at hl 1 rfl) ?_
          refine gX_endAt hE hX hown hK hh dX0_begin_45 ?_
          refine lv_iload_n hE.1 hE.2 dX0_begin_48 rfl (lv_at hl 0 rfl) ?_
          refine zv_iconst hE dX0_begin_49 ?_
          refine sX_endAt hE hK hh ⟨by omega, by omega⟩ dX0_begin_50 (fun H locs hh => ?_)
          refine lv_aload_n hE.1 hE.2 dX0_begin_51 rfl (lv_at hl 1 rfl) ?_
          refine gX_staleMark hE hX hown hK hh dX0_begin_52 ?_
          refine lv_iload_n hE.1 hE.2 dX0_begin_55 rfl (lv_at hl 0 rfl) ?_
          refine zv_iconst hE dX0_begin_56 ?_
          refine sX_staleMark hE hK hh ⟨by omega, by omega⟩ (by first | exact Or.inl rfl | exact Or.inr rfl | assumption) dX0_begin_57 (fun H locs hh => ?_)
          refine lv_aload_n hE.1 hE.2 dX0_begin_58 rfl (lv_at hl 1 rfl) ?_
          refine lv_dup hE.1 hE.2 dX0_begin_59 rfl ?_
          refine gX_intervals hE hX hown hK hh dX0_begin_60 ?_
          refine zv_iconst hE dX0_begin_63 ?_
          refine zv_iadd hE dX0_begin_64 ?_
          refine pX_intervals hE hX hown hK hh dX0_begin_65 (fun H locs hh => ?_)
          refine lv_aload_n hE.1 hE.2 dX0_begin_68 rfl (lv_at hl 1 rfl) ?_
          refine zv_iconst hE dX0_begin_69 ?_
          refine lv_iload_n hE.1 hE.2 dX0_begin_70 rfl (lv_at hl 0 rfl) ?_
          refine zv_imul hE dX0_begin_71 ?_
          refine mc_callv (rest := []) (As := [.int (zi_ (2 * z_2))]) hE hml hown hX hA hK hh (kX_putAtCursor l dC dI q cA (up_ ky z_2 key) (up_ wt z_2 0) sa (up_ ea z_2 (-1)) (up_ sm z_2 0) ln fi fk fo op (ni + 1) ns ev cu wa fr oo (2 * z_2) (by omega) (by omega) (pw_ea hw hz2) (by omega) (by omega) (by omega)) (cwV 1 hX qX_putAtCursor rfl rfl rfl (by decide +kernel) ⟨Nat.le_of_ble_eq_true rfl, Nat.le_of_ble_eq_true rfl⟩) rfl rfl hl.1 rfl (Nat.le_of_ble_eq_true rfl) dX0_begin_72 ⟨Nat.zero_le _, Nat.zero_le _⟩ rfl (fun u H locs hq_9 hh => ?_)
          obtain ⟨sa1, ea1, ln1, hpu, hq_9⟩ := hq_9
          have hq_9 := hq_9.resolve_right (fun h => absurd h.1 (by omega))
          obtain ⟨-, rfl⟩ := hq_9
          refine lv_aload_n hE.1 hE.2 dX0_begin_75 rfl (lv_at hl 1 rfl) ?_
          refine gX_open hE hX hown hK hh dX0_begin_76 ?_
          refine lv_aload_n hE.1 hE.2 dX0_begin_79 rfl (lv_at hl 1 rfl) ?_
          refine gX_openOnes hE hX hown hK hh dX0_begin_80 ?_
          refine lv_iload_n hE.1 hE.2 dX0_begin_83 rfl (lv_at hl 0 rfl) ?_
          refine sX_open hE hK hh ⟨by omega, by omega⟩ dX0_begin_84 (fun H locs hh => ?_)
          refine lv_aload_n hE.1 hE.2 dX0_begin_85 rfl (lv_at hl 1 rfl) ?_
          refine lv_dup hE.1 hE.2 dX0_begin_86 rfl ?_
          refine gX_openOnes hE hX hown hK hh dX0_begin_87 ?_
          refine zv_iconst hE dX0_begin_90 ?_
          refine zv_iadd hE dX0_begin_91 ?_
          refine pX_openOnes hE hX hown hK hh dX0_begin_92 (fun H locs hh => ?_)
          refine lv_iload_n hE.1 hE.2 dX0_begin_95 rfl (lv_at hl 0 rfl) ?_
          refine mc_ret (u := (up_ ky z_2 key, up_ wt z_2 0, up_ sa1 ((2 * z_2) / 2) cu, ea1, up_ sm z_2 0, up_ ln1 cu (2 * z_2), fi, fk, fo, up_ op oo z_2, ni + 1, ns, ev + 1, cu + 1, wa, fr, oo + 1)) hE hr hlk hK hh dX0_begin_96 ?_
          first | exact Or.inl ⟨rfl, rfl, Or.inr hzn⟩ | exact Or.inl ⟨rfl, rfl, Or.inl (by assumption)⟩ | exact Or.inr ⟨hz0, hz1, hz2, hz3, by assumption, sa1, ea1, ln1, hpu, rfl⟩ | exact absurd hz0 (by omega)
        · refine zv_iconst hE dX0_begin_28 ?_
          refine mc_ret (u := (ky, wt, sa, ea, sm, ln, fi, fk, fo, op, ni, ns, ev, cu, wa, fr, oo)) hE hr hlk hK hh dX0_begin_29 ?_
          first | exact Or.inl ⟨rfl, rfl, Or.inr hzn⟩ | exact Or.inl ⟨rfl, rfl, Or.inl (by assumption)⟩ | exact Or.inr ⟨hz0, hz1, hz2, hz3, by assumption, sa1, ea1, ln1, hpu, rfl⟩ | exact absurd hz0 (by omega)
set_option maxHeartbeats 400000 in
set_option maxRecDepth 100000 in
theorem kX_end (l : Launch) (dC : Nat → ClassId) (dI : Nat → Nat → Nat) (q : Nat → Nat) (cA : Nat → ClassId) (ky wt sa ea sm ln fi fk fo op : Int → Int) (ni ns ev cu wa fr oo : Int) (K : Int) (hI : ix_ ky wt sa ea sm ln fi fk fo op ni ns ev cu wa fr oo K) : mc_i l (dC, dI) vwCl (tX_ cA) (wX_ q cA) yX0_end wsX0_end ({ frames := 4, cells := 0, slots := 0, locals := 160 }) (ky, wt, sa, ea, sm, ln, fi, fk, fo, op, ni, ns, ev, cu, wa, fr, oo) [.ref (q 0)] (fun (z : Int) (u : SX_) => (z = -1 ∧ u = (ky, wt, sa, ea, sm, ln, fi, fk, fo, op, ni, ns, ev, cu, wa, fr, oo) ∧ oo ≤ fo (fr - 1)) ∨ (fo (fr - 1) < oo ∧ z = op (oo - 1) ∧ ∃ sa1 ea1 ln1 : Int → Int, pu_ sa ea ln ev cu sa1 ea1 ln1 ∧ u = (ky, wt, sa1, up_ ea1 ((2 * z + 1) / 2) cu, sm, up_ ln1 cu (2 * z + 1), fi, fk, fo, op, ni, ns, ev + 1, cu + 1, wa, fr, oo - 1))) := by
  refine mc_i_of (cc := cX0_end) (maxL := 2) (ret := (some .int)) (by decide) rfl (Nat.le_of_ble_eq_true rfl) ?_
  intro p e s m below meth c A ls hE hml hown hts hr hlk hA hK hh hl
  have hown : s.vm.findClass RX0 = some m.cls := hown
  have hX : ∀ w ∈ wsX_, w.before _ s = true := fun w h => hts w (List.mem_cons_of_mem _ h)
  have hl : lv_has ls 2 [(0, .ref (q 0))] := hl
  obtain ⟨hf5, hf3, hf8, hc1, hc2, hfe, hkk, hk1, hf6, hwa0, hlst⟩ := ix_f hI
  obtain ⟨hw, hnv, hct, ⟨hf1, hf2, hi0, hk0, ho0⟩, hkd, hfo, hfm, ⟨hc0, hc3, hev, ho1, ho2⟩, hsm, hky, hwt, ⟨hK0, hwa⟩, hse⟩ := hI
  have hf4 : 0 ≤ oo ∧ oo ≤ 600 := ⟨ho1, by omega⟩
  refine lv_aload_n hE.1 hE.2 dX0_end_0 rfl (lv_at hl 0 rfl) ?_
  refine mc_call (rest := []) (As := []) hE hml hown hX hA hK hh (kX_lastOpen l dC dI q cA ky wt sa ea sm ln fi fk fo op ni ns ev cu wa fr oo hf1 hf2 hf3 hf4) (cwV 0 hX qX_lastOpen rfl rfl rfl (by decide +kernel) ⟨Nat.le_of_ble_eq_true rfl, Nat.le_of_ble_eq_true rfl⟩) rfl rfl hl.1 rfl (Nat.le_of_ble_eq_true rfl) dX0_end_1 ⟨Nat.zero_le _, Nat.zero_le _⟩ rfl (fun z_2 u H locs hq_1 hh => ?_)
  obtain ⟨rfl, hq_1a, hq_1b⟩ := hq_1
  refine lv_istore_n (lv' := [(1, .int (zi_ z_2)), (0, .ref (q 0))]) hE.1 hE.2 dX0_end_4 rfl hl (by decide) rfl (fun ls hl => ?_)
  refine lv_iload_n hE.1 hE.2 dX0_end_5 rfl (lv_at hl 0 rfl) ?_
  refine zv_iconst hE dX0_end_6 ?_
  refine zv_icmp_ne (tgt := 12) hE dX0_end_7 (by decide) ⟨by omega, by omega⟩ ⟨by omega, by omega⟩ (fun hc_3 => ?_) (fun hc_3 => ?_)
  · refine lv_aload_n hE.1 hE.2 dX0_end_12 rfl (lv_at hl 1 rfl) ?_
    refine zv_iconst hE dX0_end_13 ?_
    refine lv_iload_n hE.1 hE.2 dX0_end_14 rfl (lv_at hl 0 rfl) ?_
    refine zv_imul hE dX0_end_15 ?_
    refine zv_iconst hE dX0_end_16 ?_
    refine zv_iadd hE dX0_end_17 ?_
    refine mc_callv (rest := []) (As := [.int (zi_ ((2 * z_2) + 1))]) hE hml hown hX hA hK hh (kX_putAtCursor l dC dI q cA ky wt sa ea sm ln fi fk fo op ni ns ev cu wa fr oo ((2 * z_2) + 1) (by omega) (by omega) hw (by omega) (by omega) (by omega)) (cwV 1 hX qX_putAtCursor rfl rfl rfl (by decide +kernel) ⟨Nat.le_of_ble_eq_true rfl, Nat.le_of_ble_eq_true rfl⟩) rfl rfl hl.1 rfl (Nat.le_of_ble_eq_true rfl) dX0_end_18 ⟨Nat.zero_le _, Nat.zero_le _⟩ rfl (fun u H locs hq_4 hh => ?_)
    obtain ⟨sa1, ea1, ln1, hpu, hq_4⟩ := hq_4
    have hq_4 := hq_4.resolve_left (fun h => absurd h.1 (by omega))
    obtain ⟨-, rfl⟩ := hq_4
    refine lv_aload_n hE.1 hE.2 dX0_end_21 rfl (lv_at hl 1 rfl) ?_
    refine lv_dup hE.1 hE.2 dX0_end_22 rfl ?_
    refine gX_openOnes hE hX hown hK hh dX0_end_23 ?_
    refine zv_iconst hE dX0_end_26 ?_
    refine zv_isub hE dX0_end_27 ?_
    refine pX_openOnes hE hX hown hK hh dX0_end_28 (fun H locs hh => ?_)
    refine lv_iload_n hE.1 hE.2 dX0_end_31 rfl (lv_at hl 0 rfl) ?_
    refine mc_ret (u := (ky, wt, sa1, up_ ea1 (((2 * z_2) + 1) / 2) cu, sm, up_ ln1 cu ((2 * z_2) + 1), fi, fk, fo, op, ni, ns, ev + 1, cu + 1, wa, fr, oo - 1)) hE hr hlk hK hh dX0_end_32 ?_
    first | exact Or.inl ⟨rfl, rfl, by omega⟩ | exact Or.inr ⟨by omega, by omega, sa1, ea1, ln1, hpu, rfl⟩
  · refine zv_iconst hE dX0_end_10 ?_
    refine mc_ret (u := (ky, wt, sa, ea, sm, ln, fi, fk, fo, op, ni, ns, ev, cu, wa, fr, oo)) hE hr hlk hK hh dX0_end_11 ?_
    first | exact Or.inl ⟨rfl, rfl, by omega⟩ | exact Or.inr ⟨by omega, by omega, sa1, ea1, ln1, hpu, rfl⟩
set_option maxHeartbeats 400000 in
set_option maxRecDepth 100000 in
theorem kX_weigh (l : Launch) (dC : Nat → ClassId) (dI : Nat → Nat → Nat) (q : Nat → Nat) (cA : Nat → ClassId) (ky wt sa ea sm ln fi fk fo op : Int → Int) (ni ns ev cu wa fr oo : Int) (n1 : Int) (K : Int) (hI : ix_ ky wt sa ea sm ln fi fk fo op ni ns ev cu wa fr oo K) (hk9 : zr_ n1) : mc_i l (dC, dI) vwCl (tX_ cA) (wX_ q cA) yX0_weigh wsX0_weigh ({ frames := 4, cells := 0, slots := 0, locals := 160 }) (ky, wt, sa, ea, sm, ln, fi, fk, fo, op, ni, ns, ev, cu, wa, fr, oo) [.ref (q 0), .int (zi_ n1)] (fun (z : Int) (u : SX_) => (z = 0 ∧ u = (ky, wt, sa, ea, sm, ln, fi, fk, fo, op, ni, ns, ev, cu, wa, fr, oo) ∧ (n1 < 0 ∨ fk (fr - 1) = 2 ∨ 1000000000 < wa + n1)) ∨ (z = 1 ∧ 0 ≤ n1 ∧ fk (fr - 1) ≠ 2 ∧ wa + n1 ≤ 1000000000 ∧ ∃ i : Int, ((fo (fr - 1) < oo ∧ i = op (oo - 1)) ∨ (oo ≤ fo (fr - 1) ∧ i = fi (fr - 1))) ∧ ((i = -1 ∧ u = (ky, wt, sa, ea, sm, ln, fi, fk, fo, op, ni, ns, ev, cu, wa + n1, fr, oo)) ∨ (0 ≤ i ∧ i < 600 ∧ u = (ky, up_ wt i (wt i + n1), sa, ea, sm, ln, fi, fk, fo, op, ni, ns, ev, cu, wa + n1, fr, oo))))) := by
  refine mc_i_of (cc := cX0_weigh) (maxL := 3) (ret := (some .boolean)) (by decide) rfl (Nat.le_of_ble_eq_true rfl) ?_
  intro p e s m below meth c A ls hE hml hown hts hr hlk hA hK hh hl
  have hown : s.vm.findClass RX0 = some m.cls := hown
  have hX : ∀ w ∈ wsX_, w.before _ s = true := fun w h => hts w (List.mem_cons_of_mem _ h)
  have hl : lv_has ls 3 [(0, .ref (q 0)), (1, .int (zi_ n1))] := hl
  obtain ⟨hf5, hf3, hf8, hc1, hc2, hfe, hkk, hk1, hf6, hwa0, hlst⟩ := ix_f hI
  obtain ⟨hw, hnv, hct, ⟨hf1, hf2, hi0, hk0, ho0⟩, hkd, hfo, hfm, ⟨hc0, hc3, hev, ho1, ho2⟩, hsm, hky, hwt, ⟨hK0, hwa⟩, hse⟩ := hI
  have hf4 : 0 ≤ oo ∧ oo ≤ 600 := ⟨ho1, by omega⟩
  refine lv_iload_n hE.1 hE.2 dX0_weigh_0 rfl (lv_at hl 1 rfl) ?_
  refine zv_if_lt (tgt := 23) hE dX0_weigh_1 (by decide) ⟨by omega, by omega⟩ (fun hc_1 => ?_) (fun hc_1 => ?_)
  · refine zv_iconst hE dX0_weigh_23 ?_
    refine mc_retz (u := (ky, wt, sa, ea, sm, ln, fi, fk, fo, op, ni, ns, ev, cu, wa, fr, oo)) hE hr hlk hK hh dX0_weigh_24 (by first | exact Or.inl rfl | exact Or.inr rfl | assumption) ?_
    first | exact Or.inl ⟨rfl, rfl, by omega⟩ | exact Or.inr ⟨rfl, by omega, by omega, by omega, _, Or.inl ⟨by omega, by omega⟩, Or.inr ⟨by omega, by omega, rfl⟩⟩ | exact Or.inr ⟨rfl, by omega, by omega, by omega, fi (fr - 1), Or.inr ⟨by omega, rfl⟩, Or.inr ⟨by omega, by omega, rfl⟩⟩ | exact Or.inr ⟨rfl, by omega, by omega, by omega, fi (fr - 1), Or.inr ⟨by omega, rfl⟩, Or.inl ⟨by omega, rfl⟩⟩ | (exfalso; omega)
  · refine lv_aload_n hE.1 hE.2 dX0_weigh_4 rfl (lv_at hl 0 rfl) ?_
    refine mc_call (rest := []) (As := []) hE hml hown hX hA hK hh (kX_lastKind l dC dI q cA ky wt sa ea sm ln fi fk fo op ni ns ev cu wa fr oo hf1 hf2) (cwV 0 hX qX_lastKind rfl rfl rfl (by decide +kernel) ⟨Nat.le_of_ble_eq_true rfl, Nat.le_of_ble_eq_true rfl⟩) rfl rfl hl.1 rfl (Nat.le_of_ble_eq_true rfl) dX0_weigh_5 ⟨Nat.zero_le _, Nat.zero_le _⟩ rfl (fun z_3 u H locs hq_2 hh => ?_)
    obtain ⟨rfl, rfl⟩ := hq_2
    refine zv_iconst hE dX0_weigh_8 ?_
    refine zv_icmp_eq (tgt := 23) hE dX0_weigh_9 (by decide) ⟨by omega, by omega⟩ ⟨by omega, by omega⟩ (fun hc_4 => ?_) (fun hc_4 => ?_)
    · refine zv_iconst hE dX0_weigh_23 ?_
      refine mc_retz (u := (ky, wt, sa, ea, sm, ln, fi, fk, fo, op, ni, ns, ev, cu, wa, fr, oo)) hE hr hlk hK hh dX0_weigh_24 (by first | exact Or.inl rfl | exact Or.inr rfl | assumption) ?_
      first | exact Or.inl ⟨rfl, rfl, by omega⟩ | exact Or.inr ⟨rfl, by omega, by omega, by omega, _, Or.inl ⟨by omega, by omega⟩, Or.inr ⟨by omega, by omega, rfl⟩⟩ | exact Or.inr ⟨rfl, by omega, by omega, by omega, fi (fr - 1), Or.inr ⟨by omega, rfl⟩, Or.inr ⟨by omega, by omega, rfl⟩⟩ | exact Or.inr ⟨rfl, by omega, by omega, by omega, fi (fr - 1), Or.inr ⟨by omega, rfl⟩, Or.inl ⟨by omega, rfl⟩⟩ | (exfalso; omega)
    · refine lv_iload_n hE.1 hE.2 dX0_weigh_12 rfl (lv_at hl 1 rfl) ?_
      refine lv_ldc (v := zi_ 1000000000) hE.1 hE.2 hown (hX _ mX_cn_65) dX0_weigh_13 ?_
      refine lv_aload_n hE.1 hE.2 dX0_weigh_15 rfl (lv_at hl 0 rfl) ?_
      refine gX_weightInAll hE hX hown hK hh dX0_weigh_16 ?_
      refine zv_isub hE dX0_weigh_19 ?_
      refine zv_icmp_le (tgt := 25) hE dX0_weigh_20 (by decide) ⟨by omega, by omega⟩ ⟨by omega, by omega⟩ (fun hc_5 => ?_) (fun hc_5 => ?_)
      · refine lv_aload_n hE.1 hE.2 dX0_weigh_25 rfl (lv_at hl 0 rfl) ?_
        refine mc_call (rest := []) (As := []) hE hml hown hX hA hK hh (kX_lastOpen l dC dI q cA ky wt sa ea sm ln fi fk fo op ni ns ev cu wa fr oo hf1 hf2 hf3 hf4) (cwV 0 hX qX_lastOpen rfl rfl rfl (by decide +kernel) ⟨Nat.le_of_ble_eq_true rfl, Nat.le_of_ble_eq_true rfl⟩) rfl rfl hl.1 rfl (Nat.le_of_ble_eq_true rfl) dX0_weigh_26 ⟨Nat.zero_le _, Nat.zero_le _⟩ rfl (fun z_7 u H locs hq_6 hh => ?_)
        obtain ⟨rfl, hq_6a, hq_6b⟩ := hq_6
        refine lv_istore_n (lv' := [(2, .int (zi_ z_7)), (0, .ref (q 0)), (1, .int (zi_ n1))]) hE.1 hE.2 dX0_weigh_29 rfl hl (by decide) rfl (fun ls hl => ?_)
        refine lv_iload_n hE.1 hE.2 dX0_weigh_30 rfl (lv_at hl 0 rfl) ?_
        refine zv_iconst hE dX0_weigh_31 ?_
        refine zv_icmp_ne (tgt := 40) hE dX0_weigh_32 (by decide) ⟨by omega, by omega⟩ ⟨by omega, by omega⟩ (fun hc_8 => ?_) (fun hc_8 => ?_)
        · refine lv_iload_n hE.1 hE.2 dX0_weigh_40 rfl (lv_at hl 0 rfl) ?_
          refine zv_iconst hE dX0_weigh_41 ?_
          refine zv_icmp_eq (tgt := 55) hE dX0_weigh_42 (by decide) ⟨by omega, by omega⟩ ⟨by omega, by omega⟩ (fun hc_9 => ?_) (fun hc_9 => ?_)
          · refine lv_aload_n hE.1 hE.2 dX0_weigh_55 rfl (lv_at hl 1 rfl) ?_
            refine lv_dup hE.1 hE.2 dX0_weigh_56 rfl ?_
            refine gX_weightInAll hE hX hown hK hh dX0_weigh_57 ?_
            refine lv_iload_n hE.1 hE.2 dX0_weigh_60 rfl (lv_at hl 2 rfl) ?_
            refine zv_iadd hE dX0_weigh_61 ?_
            refine pX_weightInAll hE hX hown hK hh dX0_weigh_62 (fun H locs hh => ?_)
            refine zv_iconst hE dX0_weigh_65 ?_
            refine mc_retz (u := (ky, wt, sa, ea, sm, ln, fi, fk, fo, op, ni, ns, ev, cu, wa + n1, fr, oo)) hE hr hlk hK hh dX0_weigh_66 (by first | exact Or.inl rfl | exact Or.inr rfl | assumption) ?_
            first | exact Or.inl ⟨rfl, rfl, by omega⟩ | exact Or.inr ⟨rfl, by omega, by omega, by omega, _, Or.inl ⟨by omega, by omega⟩, Or.inr ⟨by omega, by omega, rfl⟩⟩ | exact Or.inr ⟨rfl, by omega, by omega, by omega, fi (fr - 1), Or.inr ⟨by omega, rfl⟩, Or.inr ⟨by omega, by omega, rfl⟩⟩ | exact Or.inr ⟨rfl, by omega, by omega, by omega, fi (fr - 1), Or.inr ⟨by omega, rfl⟩, Or.inl ⟨by omega, rfl⟩⟩ | (exfalso; omega)
          · refine lv_aload_n hE.1 hE.2 dX0_weigh_45 rfl (lv_at hl 1 rfl) ?_
            refine gX_weights hE hX hown hK hh dX0_weigh_46 ?_
            refine lv_iload_n hE.1 hE.2 dX0_weigh_49 rfl (lv_at hl 0 rfl) ?_
            refine lv_dup2_11 hE.1 hE.2 dX0_weigh_50 rfl rfl ?_
            refine rX_weights hE hK hh ⟨by omega, by omega⟩ dX0_weigh_51 ?_
            refine lv_iload_n hE.1 hE.2 dX0_weigh_52 rfl (lv_at hl 2 rfl) ?_
            refine zv_iadd hE dX0_weigh_53 ?_
            refine sX_weights hE hK hh ⟨by omega, by omega⟩ dX0_weigh_54 (fun H locs hh => ?_)
            refine lv_aload_n hE.1 hE.2 dX0_weigh_55 rfl (lv_at hl 1 rfl) ?_
            refine lv_dup hE.1 hE.2 dX0_weigh_56 rfl ?_
            refine gX_weightInAll hE hX hown hK hh dX0_weigh_57 ?_
            refine lv_iload_n hE.1 hE.2 dX0_weigh_60 rfl (lv_at hl 2 rfl) ?_
            refine zv_iadd hE dX0_weigh_61 ?_
            refine pX_weightInAll hE hX hown hK hh dX0_weigh_62 (fun H locs hh => ?_)
            refine zv_iconst hE dX0_weigh_65 ?_
            refine mc_retz (u := (ky, up_ wt z_7 ((wt z_7) + n1), sa, ea, sm, ln, fi, fk, fo, op, ni, ns, ev, cu, wa + n1, fr, oo)) hE hr hlk hK hh dX0_weigh_66 (by first | exact Or.inl rfl | exact Or.inr rfl | assumption) ?_
            first | exact Or.inl ⟨rfl, rfl, by omega⟩ | exact Or.inr ⟨rfl, by omega, by omega, by omega, _, Or.inl ⟨by omega, by omega⟩, Or.inr ⟨by omega, by omega, rfl⟩⟩ | exact Or.inr ⟨rfl, by omega, by omega, by omega, fi (fr - 1), Or.inr ⟨by omega, rfl⟩, Or.inr ⟨by omega, by omega, rfl⟩⟩ | exact Or.inr ⟨rfl, by omega, by omega, by omega, fi (fr - 1), Or.inr ⟨by omega, rfl⟩, Or.inl ⟨by omega, rfl⟩⟩ | (exfalso; omega)
        · refine lv_aload_n hE.1 hE.2 dX0_weigh_35 rfl (lv_at hl 1 rfl) ?_
          refine mc_call (rest := []) (As := []) hE hml hown hX hA hK hh (kX_lastInterval l dC dI q cA ky wt sa ea sm ln fi fk fo op ni ns ev cu wa fr oo hf1 hf2) (cwV 0 hX qX_lastInterval rfl rfl rfl (by decide +kernel) ⟨Nat.le_of_ble_eq_true rfl, Nat.le_of_ble_eq_true rfl⟩) rfl rfl hl.1 rfl (Nat.le_of_ble_eq_true rfl) dX0_weigh_36 ⟨Nat.zero_le _, Nat.zero_le _⟩ rfl (fun z_11 u H locs hq_10 hh => ?_)
          obtain ⟨rfl, rfl⟩ := hq_10
          refine lv_istore_n (lv' := [(2, .int (zi_ (fi (fr - 1)))), (0, .ref (q 0)), (1, .int (zi_ n1))]) hE.1 hE.2 dX0_weigh_39 rfl hl (by decide) rfl (fun ls hl => ?_)
          refine lv_iload_n hE.1 hE.2 dX0_weigh_40 rfl (lv_at hl 0 rfl) ?_
          refine zv_iconst hE dX0_weigh_41 ?_
          refine zv_icmp_eq (tgt := 55) hE dX0_weigh_42 (by decide) ⟨by omega, by omega⟩ ⟨by omega, by omega⟩ (fun hc_12 => ?_) (fun hc_12 => ?_)
          · refine lv_aload_n hE.1 hE.2 dX0_weigh_55 rfl (lv_at hl 1 rfl) ?_
            refine lv_dup hE.1 hE.2 dX0_weigh_56 rfl ?_
            refine gX_weightInAll hE hX hown hK hh dX0_weigh_57 ?_
            refine lv_iload_n hE.1 hE.2 dX0_weigh_60 rfl (lv_at hl 2 rfl) ?_
            refine zv_iadd hE dX0_weigh_61 ?_
            refine pX_weightInAll hE hX hown hK hh dX0_weigh_62 (fun H locs hh => ?_)
            refine zv_iconst hE dX0_weigh_65 ?_
            refine mc_retz (u := (ky, wt, sa, ea, sm, ln, fi, fk, fo, op, ni, ns, ev, cu, wa + n1, fr, oo)) hE hr hlk hK hh dX0_weigh_66 (by first | exact Or.inl rfl | exact Or.inr rfl | assumption) ?_
            first | exact Or.inl ⟨rfl, rfl, by omega⟩ | exact Or.inr ⟨rfl, by omega, by omega, by omega, _, Or.inl ⟨by omega, by omega⟩, Or.inr ⟨by omega, by omega, rfl⟩⟩ | exact Or.inr ⟨rfl, by omega, by omega, by omega, fi (fr - 1), Or.inr ⟨by omega, rfl⟩, Or.inr ⟨by omega, by omega, rfl⟩⟩ | exact Or.inr ⟨rfl, by omega, by omega, by omega, fi (fr - 1), Or.inr ⟨by omega, rfl⟩, Or.inl ⟨by omega, rfl⟩⟩ | (exfalso; omega)
          · refine lv_aload_n hE.1 hE.2 dX0_weigh_45 rfl (lv_at hl 1 rfl) ?_
            refine gX_weights hE hX hown hK hh dX0_weigh_46 ?_
            refine lv_iload_n hE.1 hE.2 dX0_weigh_49 rfl (lv_at hl 0 rfl) ?_
            refine lv_dup2_11 hE.1 hE.2 dX0_weigh_50 rfl rfl ?_
            refine rX_weights hE hK hh ⟨by omega, by omega⟩ dX0_weigh_51 ?_
            refine lv_iload_n hE.1 hE.2 dX0_weigh_52 rfl (lv_at hl 2 rfl) ?_
            refine zv_iadd hE dX0_weigh_53 ?_
            refine sX_weights hE hK hh ⟨by omega, by omega⟩ dX0_weigh_54 (fun H locs hh => ?_)
            refine lv_aload_n hE.1 hE.2 dX0_weigh_55 rfl (lv_at hl 1 rfl) ?_
            refine lv_dup hE.1 hE.2 dX0_weigh_56 rfl ?_
            refine gX_weightInAll hE hX hown hK hh dX0_weigh_57 ?_
            refine lv_iload_n hE.1 hE.2 dX0_weigh_60 rfl (lv_at hl 2 rfl) ?_
            refine zv_iadd hE dX0_weigh_61 ?_
            refine pX_weightInAll hE hX hown hK hh dX0_weigh_62 (fun H locs hh => ?_)
            refine zv_iconst hE dX0_weigh_65 ?_
            refine mc_retz (u := (ky, up_ wt (fi (fr - 1)) ((wt (fi (fr - 1))) + n1), sa, ea, sm, ln, fi, fk, fo, op, ni, ns, ev, cu, wa + n1, fr, oo)) hE hr hlk hK hh dX0_weigh_66 (by first | exact Or.inl rfl | exact Or.inr rfl | assumption) ?_
            first | exact Or.inl ⟨rfl, rfl, by omega⟩ | exact Or.inr ⟨rfl, by omega, by omega, by omega, _, Or.inl ⟨by omega, by omega⟩, Or.inr ⟨by omega, by omega, rfl⟩⟩ | exact Or.inr ⟨rfl, by omega, by omega, by omega, fi (fr - 1), Or.inr ⟨by omega, rfl⟩, Or.inr ⟨by omega, by omega, rfl⟩⟩ | exact Or.inr ⟨rfl, by omega, by omega, by omega, fi (fr - 1), Or.inr ⟨by omega, rfl⟩, Or.inl ⟨by omega, rfl⟩⟩ | (exfalso; omega)
      · refine zv_iconst hE dX0_weigh_23 ?_
        refine mc_retz (u := (ky, wt, sa, ea, sm, ln, fi, fk, fo, op, ni, ns, ev, cu, wa, fr, oo)) hE hr hlk hK hh dX0_weigh_24 (by first | exact Or.inl rfl | exact Or.inr rfl | assumption) ?_
        first | exact Or.inl ⟨rfl, rfl, by omega⟩ | exact Or.inr ⟨rfl, by omega, by omega, by omega, _, Or.inl ⟨by omega, by omega⟩, Or.inr ⟨by omega, by omega, rfl⟩⟩ | exact Or.inr ⟨rfl, by omega, by omega, by omega, fi (fr - 1), Or.inr ⟨by omega, rfl⟩, Or.inr ⟨by omega, by omega, rfl⟩⟩ | exact Or.inr ⟨rfl, by omega, by omega, by omega, fi (fr - 1), Or.inr ⟨by omega, rfl⟩, Or.inl ⟨by omega, rfl⟩⟩ | (exfalso; omega)
set_option maxHeartbeats 400000 in
set_option maxRecDepth 100000 in
theorem kX_stale (l : Launch) (dC : Nat → ClassId) (dI : Nat → Nat → Nat) (q : Nat → Nat) (cA : Nat → ClassId) (ky wt sa ea sm ln fi fk fo op : Int → Int) (ni ns ev cu wa fr oo : Int) (i : Int) (K : Int) (hI : ix_ ky wt sa ea sm ln fi fk fo op ni ns ev cu wa fr oo K) (hk9 : zr_ i) : mc_i l (dC, dI) vwCl (tX_ cA) (wX_ q cA) yX0_stale wsX0_stale ({ frames := 4, cells := 0, slots := 0, locals := 160 }) (ky, wt, sa, ea, sm, ln, fi, fk, fo, op, ni, ns, ev, cu, wa, fr, oo) [.ref (q 0), .int (zi_ i)] (fun (z : Int) (u : SX_) => (z = 0 ∧ u = (ky, wt, sa, ea, sm, ln, fi, fk, fo, op, ni, ns, ev, cu, wa, fr, oo) ∧ (i < 0 ∨ 600 ≤ i ∨ sa i = -1 ∨ ea i = -1 ∨ sm i = 1)) ∨ (z = 1 ∧ 0 ≤ i ∧ i < 600 ∧ sa i ≠ -1 ∧ ea i ≠ -1 ∧ sm i = 0 ∧ u = (ky, wt, sa, ea, up_ sm i 1, ln, fi, fk, fo, op, ni, ns + 1, ev, cu, wa, fr, oo))) := by
  refine mc_i_of (cc := cX0_stale) (maxL := 2) (ret := (some .boolean)) (by decide) rfl (Nat.le_of_ble_eq_true rfl) ?_
  intro p e s m below meth c A ls hE hml hown hts hr hlk hA hK hh hl
  have hown : s.vm.findClass RX0 = some m.cls := hown
  have hX : ∀ w ∈ wsX_, w.before _ s = true := fun w h => hts w (List.mem_cons_of_mem _ h)
  have hl : lv_has ls 2 [(0, .ref (q 0)), (1, .int (zi_ i))] := hl
  obtain ⟨hf5, hf3, hf8, hc1, hc2, hfe, hkk, hk1, hf6, hwa0, hlst⟩ := ix_f hI
  obtain ⟨hw, hnv, hct, ⟨hf1, hf2, hi0, hk0, ho0⟩, hkd, hfo, hfm, ⟨hc0, hc3, hev, ho1, ho2⟩, hsm, hky, hwt, ⟨hK0, hwa⟩, hse⟩ := hI
  have hf4 : 0 ≤ oo ∧ oo ≤ 600 := ⟨ho1, by omega⟩
  refine lv_aload_n hE.1 hE.2 dX0_stale_0 rfl (lv_at hl 0 rfl) ?_
  refine lv_iload_n hE.1 hE.2 dX0_stale_1 rfl (lv_at hl 1 rfl) ?_
  refine mc_call (rest := []) (As := [.int (zi_ i)]) hE hml hown hX hA hK hh (kX_isThere l dC dI q cA ky wt sa ea sm ln fi fk fo op ni ns ev cu wa fr oo i (by assumption) (fun a b => pw_zr hw a b)) (cwV 1 hX qX_isThere rfl rfl rfl (by decide +kernel) ⟨Nat.le_of_ble_eq_true rfl, Nat.le_of_ble_eq_true rfl⟩) rfl rfl hl.1 rfl (Nat.le_of_ble_eq_true rfl) dX0_stale_2 ⟨Nat.zero_le _, Nat.zero_le _⟩ rfl (fun z_2 u H locs hq_1 hh => ?_)
  obtain ⟨rfl, hq_1a, hq_1b⟩ := hq_1
  have hq_1z : zr_ z_2 := ⟨by omega, by omega⟩
  refine zv_if_eq (tgt := 25) hE dX0_stale_5 (by decide) ⟨by omega, by omega⟩ (fun hc_3 => ?_) (fun hc_3 => ?_)
  · refine zv_iconst hE dX0_stale_25 ?_
    refine mc_retz (u := (ky, wt, sa, ea, sm, ln, fi, fk, fo, op, ni, ns, ev, cu, wa, fr, oo)) hE hr hlk hK hh dX0_stale_26 (by first | exact Or.inl rfl | exact Or.inr rfl | assumption) ?_
    first | exact Or.inl ⟨rfl, rfl, by omega⟩ | exact Or.inr ⟨rfl, by omega, by omega, by omega, by omega, by omega, rfl⟩
  · refine lv_aload_n hE.1 hE.2 dX0_stale_8 rfl (lv_at hl 0 rfl) ?_
    refine lv_iload_n hE.1 hE.2 dX0_stale_9 rfl (lv_at hl 1 rfl) ?_
    have hx := hw.2.2.1 i (by omega) (by omega) (by omega)
    have hx8 := hw.2.1 i (by omega) (by omega)
    refine mc_call (rest := []) (As := [.int (zi_ i)]) hE hml hown hX hA hK hh (kX_isEnded l dC dI q cA ky wt sa ea sm ln fi fk fo op ni ns ev cu wa fr oo i (by omega) (by omega) (by first | assumption | exact ⟨by omega, by omega⟩)) (cwV 1 hX qX_isEnded rfl rfl rfl (by decide +kernel) ⟨Nat.le_of_ble_eq_true rfl, Nat.le_of_ble_eq_true rfl⟩) rfl rfl hl.1 rfl (Nat.le_of_ble_eq_true rfl) dX0_stale_10 ⟨Nat.zero_le _, Nat.zero_le _⟩ rfl (fun z_5 u H locs hq_4 hh => ?_)
    obtain ⟨rfl, hq_4⟩ := hq_4
    refine zv_if_eq (tgt := 25) hE dX0_stale_13 (by decide) ⟨by omega, by omega⟩ (fun hc_6 => ?_) (fun hc_6 => ?_)
    · refine zv_iconst hE dX0_stale_25 ?_
      refine mc_retz (u := (ky, wt, sa, ea, sm, ln, fi, fk, fo, op, ni, ns, ev, cu, wa, fr, oo)) hE hr hlk hK hh dX0_stale_26 (by first | exact Or.inl rfl | exact Or.inr rfl | assumption) ?_
      first | exact Or.inl ⟨rfl, rfl, by omega⟩ | exact Or.inr ⟨rfl, by omega, by omega, by omega, by omega, by omega, rfl⟩
    · refine lv_aload_n hE.1 hE.2 dX0_stale_16 rfl (lv_at hl 0 rfl) ?_
      refine gX_staleMark hE hX hown hK hh dX0_stale_17 ?_
      refine lv_iload_n hE.1 hE.2 dX0_stale_20 rfl (lv_at hl 1 rfl) ?_
      have hx4 := hsm i (by omega) (by omega)
      refine rX_staleMark hE hK hh ⟨by omega, by omega⟩ dX0_stale_21 ?_
      refine zv_if_eq (tgt := 27) hE dX0_stale_22 (by decide) ⟨by omega, by omega⟩ (fun hc_7 => ?_) (fun hc_7 => ?_)
      · refine lv_aload_n hE.1 hE.2 dX0_stale_27 rfl (lv_at hl 0 rfl) ?_
        refine gX_staleMark hE hX hown hK hh dX0_stale_28 ?_
        refine lv_iload_n hE.1 hE.2 dX0_stale_31 rfl (lv_at hl 1 rfl) ?_
        refine zv_iconst hE dX0_stale_32 ?_
        refine sX_staleMark hE hK hh ⟨by omega, by omega⟩ (by first | exact Or.inl rfl | exact Or.inr rfl | assumption) dX0_stale_33 (fun H locs hh => ?_)
        refine lv_aload_n hE.1 hE.2 dX0_stale_34 rfl (lv_at hl 0 rfl) ?_
        refine lv_dup hE.1 hE.2 dX0_stale_35 rfl ?_
        refine gX_staleOnes hE hX hown hK hh dX0_stale_36 ?_
        refine zv_iconst hE dX0_stale_39 ?_
        refine zv_iadd hE dX0_stale_40 ?_
        refine pX_staleOnes hE hX hown hK hh dX0_stale_41 (fun H locs hh => ?_)
        refine zv_iconst hE dX0_stale_44 ?_
        refine mc_retz (u := (ky, wt, sa, ea, up_ sm i 1, ln, fi, fk, fo, op, ni, ns + 1, ev, cu, wa, fr, oo)) hE hr hlk hK hh dX0_stale_45 (by first | exact Or.inl rfl | exact Or.inr rfl | assumption) ?_
        first | exact Or.inl ⟨rfl, rfl, by omega⟩ | exact Or.inr ⟨rfl, by omega, by omega, by omega, by omega, by omega, rfl⟩
      · refine zv_iconst hE dX0_stale_25 ?_
        refine mc_retz (u := (ky, wt, sa, ea, sm, ln, fi, fk, fo, op, ni, ns, ev, cu, wa, fr, oo)) hE hr hlk hK hh dX0_stale_26 (by first | exact Or.inl rfl | exact Or.inr rfl | assumption) ?_
        first | exact Or.inl ⟨rfl, rfl, by omega⟩ | exact Or.inr ⟨rfl, by omega, by omega, by omega, by omega, by omega, rfl⟩
set_option maxHeartbeats 400000 in
set_option maxRecDepth 100000 in
theorem kX_resume (l : Launch) (dC : Nat → ClassId) (dI : Nat → Nat → Nat) (q : Nat → Nat) (cA : Nat → ClassId) (ky wt sa ea sm ln fi fk fo op : Int → Int) (ni ns ev cu wa fr oo : Int) (K : Int) (hI : ix_ ky wt sa ea sm ln fi fk fo op ni ns ev cu wa fr oo K) : mc_i l (dC, dI) vwCl (tX_ cA) (wX_ q cA) yX0_resume wsX0_resume ({ frames := 4, cells := 0, slots := 0, locals := 160 }) (ky, wt, sa, ea, sm, ln, fi, fk, fo, op, ni, ns, ev, cu, wa, fr, oo) [.ref (q 0)] (fun (z : Int) (u : SX_) => (z = -1 ∧ u = (ky, wt, sa, ea, sm, ln, fi, fk, fo, op, ni, ns, ev, cu, wa, fr, oo) ∧ (fk (fr - 1) = 1 ∨ fo (fr - 1) < oo ∨ fr = 64 ∨ ∀ k : Int, cu ≤ k → k < (lm_ fi ea ev fr) → ¬ (fun k => ln k % 2 = 0 ∧ sm (ln k / 2) = 1) k)) ∨ (fk (fr - 1) ≠ 1 ∧ oo ≤ fo (fr - 1) ∧ fr < 64 ∧ ∃ k : Int, cu ≤ k ∧ k < (lm_ fi ea ev fr) ∧ (fun k => ln k % 2 = 0 ∧ sm (ln k / 2) = 1) k ∧ (∀ j : Int, cu ≤ j → j < k → ¬ (fun k => ln k % 2 = 0 ∧ sm (ln k / 2) = 1) j) ∧ z = ln k / 2 ∧ u = (ky, up_ wt (ln k / 2) 0, sa, ea, up_ sm (ln k / 2) 0, ln, up_ fi fr (ln k / 2), up_ fk fr 1, up_ fo fr oo, op, ni, ns - 1, ev, sa (ln k / 2) + 1, wa - wt (ln k / 2), fr + 1, oo))) := by
  refine mc_i_of (cc := cX0_resume) (maxL := 2) (ret := (some .int)) (by decide) rfl (Nat.le_of_ble_eq_true rfl) ?_
  intro p e s m below meth c A ls hE hml hown hts hr hlk hA hK hh hl
  have hown : s.vm.findClass RX0 = some m.cls := hown
  have hX : ∀ w ∈ wsX_, w.before _ s = true := fun w h => hts w (List.mem_cons_of_mem _ h)
  have hl : lv_has ls 2 [(0, .ref (q 0))] := hl
  obtain ⟨hf5, hf3, hf8, hc1, hc2, hfe, hkk, hk1, hf6, hwa0, hlst⟩ := ix_f hI
  obtain ⟨hw, hnv, hct, ⟨hf1, hf2, hi0, hk0, ho0⟩, hkd, hfo, hfm, ⟨hc0, hc3, hev, ho1, ho2⟩, hsm, hky, hwt, ⟨hK0, hwa⟩, hse⟩ := hI
  have hf4 : 0 ≤ oo ∧ oo ≤ 600 := ⟨ho1, by omega⟩
  refine lv_aload_n hE.1 hE.2 dX0_resume_0 rfl (lv_at hl 0 rfl) ?_
  refine mc_call (rest := []) (As := []) hE hml hown hX hA hK hh (kX_lastKind l dC dI q cA ky wt sa ea sm ln fi fk fo op ni ns ev cu wa fr oo hf1 hf2) (cwV 0 hX qX_lastKind rfl rfl rfl (by decide +kernel) ⟨Nat.le_of_ble_eq_true rfl, Nat.le_of_ble_eq_true rfl⟩) rfl rfl hl.1 rfl (Nat.le_of_ble_eq_true rfl) dX0_resume_1 ⟨Nat.zero_le _, Nat.zero_le _⟩ rfl (fun z_2 u H locs hq_1 hh => ?_)
  obtain ⟨rfl, rfl⟩ := hq_1
  refine zv_iconst hE dX0_resume_4 ?_
  refine zv_icmp_eq (tgt := 25) hE dX0_resume_5 (by decide) ⟨by omega, by omega⟩ ⟨by omega, by omega⟩ (fun hc_3 => ?_) (fun hc_3 => ?_)
  · refine zv_iconst hE dX0_resume_25 ?_
    refine mc_ret (u := (ky, wt, sa, ea, sm, ln, fi, fk, fo, op, ni, ns, ev, cu, wa, fr, oo)) hE hr hlk hK hh dX0_resume_26 ?_
    first | exact Or.inl ⟨rfl, rfl, Or.inr (Or.inr (Or.inr hzn))⟩ | exact Or.inl ⟨rfl, rfl, by omega⟩ | exact Or.inr ⟨by omega, by omega, by omega, k, hz0, hz1, hz2, hz3, rfl, rfl⟩ | (exfalso; omega)
  · refine lv_aload_n hE.1 hE.2 dX0_resume_8 rfl (lv_at hl 0 rfl) ?_
    refine mc_call (rest := []) (As := []) hE hml hown hX hA hK hh (kX_lastOpen l dC dI q cA ky wt sa ea sm ln fi fk fo op ni ns ev cu wa fr oo hf1 hf2 hf3 hf4) (cwV 0 hX qX_lastOpen rfl rfl rfl (by decide +kernel) ⟨Nat.le_of_ble_eq_true rfl, Nat.le_of_ble_eq_true rfl⟩) rfl rfl hl.1 rfl (Nat.le_of_ble_eq_true rfl) dX0_resume_9 ⟨Nat.zero_le _, Nat.zero_le _⟩ rfl (fun z_5 u H locs hq_4 hh => ?_)
    obtain ⟨rfl, hq_4a, hq_4b⟩ := hq_4
    refine zv_iconst hE dX0_resume_12 ?_
    refine zv_icmp_ne (tgt := 25) hE dX0_resume_13 (by decide) ⟨by omega, by omega⟩ ⟨by omega, by omega⟩ (fun hc_6 => ?_) (fun hc_6 => ?_)
    · refine zv_iconst hE dX0_resume_25 ?_
      refine mc_ret (u := (ky, wt, sa, ea, sm, ln, fi, fk, fo, op, ni, ns, ev, cu, wa, fr, oo)) hE hr hlk hK hh dX0_resume_26 ?_
      first | exact Or.inl ⟨rfl, rfl, Or.inr (Or.inr (Or.inr hzn))⟩ | exact Or.inl ⟨rfl, rfl, by omega⟩ | exact Or.inr ⟨by omega, by omega, by omega, k, hz0, hz1, hz2, hz3, rfl, rfl⟩ | (exfalso; omega)
    · refine lv_aload_n hE.1 hE.2 dX0_resume_16 rfl (lv_at hl 0 rfl) ?_
      refine gX_frames hE hX hown hK hh dX0_resume_17 ?_
      refine zv_bipush hE dX0_resume_20 (by decide) ?_
      refine zv_icmp_lt (tgt := 27) hE dX0_resume_22 (by decide) ⟨by omega, by omega⟩ ⟨by omega, by omega⟩ (fun hc_7 => ?_) (fun hc_7 => ?_)
      · refine lv_aload_n hE.1 hE.2 dX0_resume_27 rfl (lv_at hl 0 rfl) ?_
        refine mc_call (rest := []) (As := []) hE hml hown hX hA hK hh (kX_firstStaleAhead l dC dI q cA ky wt sa ea sm ln fi fk fo op ni ns ev cu wa fr oo hf1 hf2 hf5 hw hsm hc0 hc1 hc2) (cwV 0 hX qX_firstStaleAhead rfl rfl rfl (by decide +kernel) ⟨Nat.le_of_ble_eq_true rfl, Nat.le_of_ble_eq_true rfl⟩) rfl rfl hl.1 rfl (Nat.le_of_ble_eq_true rfl) dX0_resume_28 ⟨Nat.zero_le _, Nat.zero_le _⟩ rfl (fun z_9 u H locs hq_8 hh => ?_)
        obtain ⟨rfl, hq_8⟩ := hq_8
        rcases hq_8 with ⟨rfl, hzn⟩ | ⟨k, hz0, hz1, hz2, rfl, hz3⟩
        · refine lv_istore_n (lv' := [(1, .int (zi_ (-1))), (0, .ref (q 0))]) hE.1 hE.2 dX0_resume_31 rfl hl (by decide) rfl (fun ls hl => ?_)
          refine lv_iload_n hE.1 hE.2 dX0_resume_32 rfl (lv_at hl 0 rfl) ?_
          refine zv_iconst hE dX0_resume_33 ?_
          refine zv_icmp_ne (tgt := 39) hE dX0_resume_34 (by decide) ⟨by omega, by omega⟩ ⟨by omega, by omega⟩ (fun hc_10 => ?_) (fun hc_10 => ?_)
          · exact absurd hc_10 (by decide)
          · refine zv_iconst hE dX0_resume_37 ?_
            refine mc_ret (u := (ky, wt, sa, ea, sm, ln, fi, fk, fo, op, ni, ns, ev, cu, wa, fr, oo)) hE hr hlk hK hh dX0_resume_38 ?_
            first | exact Or.inl ⟨rfl, rfl, Or.inr (Or.inr (Or.inr hzn))⟩ | exact Or.inl ⟨rfl, rfl, by omega⟩ | exact Or.inr ⟨by omega, by omega, by omega, k, hz0, hz1, hz2, hz3, rfl, rfl⟩ | (exfalso; omega)
        · have hx2 := hw.2.2.2 k (by omega) (by omega)
          have hx3 := hx2.2.2.1 hz2.1
          have hd0 : 0 ≤ ln k / 2 := by omega
          have hd1 : ln k / 2 < 600 := by omega
          refine lv_istore_n (lv' := [(1, .int (zi_ (ln k / 2))), (0, .ref (q 0))]) hE.1 hE.2 dX0_resume_31 rfl hl (by decide) rfl (fun ls hl => ?_)
          refine lv_iload_n hE.1 hE.2 dX0_resume_32 rfl (lv_at hl 0 rfl) ?_
          refine zv_iconst hE dX0_resume_33 ?_
          refine zv_icmp_ne (tgt := 39) hE dX0_resume_34 (by decide) ⟨by omega, by omega⟩ ⟨by omega, by omega⟩ (fun hc_11 => ?_) (fun hc_11 => ?_)
          · refine lv_aload_n hE.1 hE.2 dX0_resume_39 rfl (lv_at hl 1 rfl) ?_
            refine gX_staleMark hE hX hown hK hh dX0_resume_40 ?_
            refine lv_iload_n hE.1 hE.2 dX0_resume_43 rfl (lv_at hl 0 rfl) ?_
            refine zv_iconst hE dX0_resume_44 ?_
            refine sX_staleMark hE hK hh ⟨by omega, by omega⟩ (by first | exact Or.inl rfl | exact Or.inr rfl | assumption) dX0_resume_45 (fun H locs hh => ?_)
            refine lv_aload_n hE.1 hE.2 dX0_resume_46 rfl (lv_at hl 1 rfl) ?_
            refine lv_dup hE.1 hE.2 dX0_resume_47 rfl ?_
            refine gX_staleOnes hE hX hown hK hh dX0_resume_48 ?_
            refine zv_iconst hE dX0_resume_51 ?_
            refine zv_isub hE dX0_resume_52 ?_
            refine pX_staleOnes hE hX hown hK hh dX0_resume_53 (fun H locs hh => ?_)
            refine lv_aload_n hE.1 hE.2 dX0_resume_56 rfl (lv_at hl 1 rfl) ?_
            refine lv_dup hE.1 hE.2 dX0_resume_57 rfl ?_
            refine gX_weightInAll hE hX hown hK hh dX0_resume_58 ?_
            refine lv_aload_n hE.1 hE.2 dX0_resume_61 rfl (lv_at hl 1 rfl) ?_
            refine gX_weights hE hX hown hK hh dX0_resume_62 ?_
            refine lv_iload_n hE.1 hE.2 dX0_resume_65 rfl (lv_at hl 0 rfl) ?_
            refine rX_weights hE hK hh ⟨by omega, by omega⟩ dX0_resume_66 ?_
            refine zv_isub hE dX0_resume_67 ?_
            refine pX_weightInAll hE hX hown hK hh dX0_resume_68 (fun H locs hh => ?_)
            refine lv_aload_n hE.1 hE.2 dX0_resume_71 rfl (lv_at hl 1 rfl) ?_
            refine gX_weights hE hX hown hK hh dX0_resume_72 ?_
            refine lv_iload_n hE.1 hE.2 dX0_resume_75 rfl (lv_at hl 0 rfl) ?_
            refine zv_iconst hE dX0_resume_76 ?_
            refine sX_weights hE hK hh ⟨by omega, by omega⟩ dX0_resume_77 (fun H locs hh => ?_)
            refine lv_aload_n hE.1 hE.2 dX0_resume_78 rfl (lv_at hl 1 rfl) ?_
            refine lv_iload_n hE.1 hE.2 dX0_resume_79 rfl (lv_at hl 0 rfl) ?_
            refine zv_iconst hE dX0_resume_80 ?_
            refine mc_callv (rest := []) (As := [.int (zi_ (ln k / 2)), .int (zi_ 1)]) hE hml hown hX hA hK hh (kX_putFrame l dC dI q cA ky (up_ wt (ln k / 2) 0) sa ea (up_ sm (ln k / 2) 0) ln fi fk fo op ni (ns - 1) ev cu (wa - (wt (ln k / 2))) fr oo (ln k / 2) 1 hf1 (by omega) (by omega) (by omega)) (cwV 2 hX qX_putFrame rfl rfl rfl (by decide +kernel) ⟨Nat.le_of_ble_eq_true rfl, Nat.le_of_ble_eq_true rfl⟩) rfl rfl hl.1 rfl (Nat.le_of_ble_eq_true rfl) dX0_resume_81 ⟨Nat.zero_le _, Nat.zero_le _⟩ rfl (fun u H locs hq_12 hh => ?_)
            subst hq_12
            refine lv_iload_n hE.1 hE.2 dX0_resume_84 rfl (lv_at hl 0 rfl) ?_
            refine mc_ret (u := (ky, up_ wt (ln k / 2) 0, sa, ea, up_ sm (ln k / 2) 0, ln, up_ fi fr (ln k / 2), up_ fk fr 1, up_ fo fr oo, op, ni, ns - 1, ev, sa (ln k / 2) + 1, wa - (wt (ln k / 2)), fr + 1, oo)) hE hr hlk hK hh dX0_resume_85 ?_
            first | exact Or.inl ⟨rfl, rfl, Or.inr (Or.inr (Or.inr hzn))⟩ | exact Or.inl ⟨rfl, rfl, by omega⟩ | exact Or.inr ⟨by omega, by omega, by omega, k, hz0, hz1, hz2, hz3, rfl, rfl⟩ | (exfalso; omega)
          · refine zv_iconst hE dX0_resume_37 ?_
            refine mc_ret (u := (ky, wt, sa, ea, sm, ln, fi, fk, fo, op, ni, ns, ev, cu, wa, fr, oo)) hE hr hlk hK hh dX0_resume_38 ?_
            first | exact Or.inl ⟨rfl, rfl, Or.inr (Or.inr (Or.inr hzn))⟩ | exact Or.inl ⟨rfl, rfl, by omega⟩ | exact Or.inr ⟨by omega, by omega, by omega, k, hz0, hz1, hz2, hz3, rfl, rfl⟩ | (exfalso; omega)
      · refine zv_iconst hE dX0_resume_25 ?_
        refine mc_ret (u := (ky, wt, sa, ea, sm, ln, fi, fk, fo, op, ni, ns, ev, cu, wa, fr, oo)) hE hr hlk hK hh dX0_resume_26 ?_
        first | exact Or.inl ⟨rfl, rfl, Or.inr (Or.inr (Or.inr hzn))⟩ | exact Or.inl ⟨rfl, rfl, by omega⟩ | exact Or.inr ⟨by omega, by omega, by omega, k, hz0, hz1, hz2, hz3, rfl, rfl⟩ | (exfalso; omega)
set_option maxHeartbeats 400000 in
set_option maxRecDepth 100000 in
theorem kX_take (l : Launch) (dC : Nat → ClassId) (dI : Nat → Nat → Nat) (q : Nat → Nat) (cA : Nat → ClassId) (ky wt sa ea sm ln fi fk fo op : Int → Int) (ni ns ev cu wa fr oo : Int) (key : Int) (K : Int) (hI : ix_ ky wt sa ea sm ln fi fk fo op ni ns ev cu wa fr oo K) (hk9 : zr_ key) : mc_i l (dC, dI) vwCl (tX_ cA) (wX_ q cA) yX0_take wsX0_take ({ frames := 4, cells := 0, slots := 0, locals := 160 }) (ky, wt, sa, ea, sm, ln, fi, fk, fo, op, ni, ns, ev, cu, wa, fr, oo) [.ref (q 0), .int (zi_ key)] (fun (z : Int) (u : SX_) => (z = -1 ∧ u = (ky, wt, sa, ea, sm, ln, fi, fk, fo, op, ni, ns, ev, cu, wa, fr, oo) ∧ (fk (fr - 1) ≠ 1 ∨ fr = 64 ∨ ∀ k : Int, cu ≤ k → k < (lm_ fi ea ev fr) → ¬ (fun k => ln k % 2 = 0 ∧ ky (ln k / 2) = key ∧ sm (ln k / 2) = 0 ∧ ea (ln k / 2) ≠ -1 ∧ ea (ln k / 2) < (lm_ fi ea ev fr)) k)) ∨ (fk (fr - 1) = 1 ∧ fr < 64 ∧ ∃ k : Int, cu ≤ k ∧ k < (lm_ fi ea ev fr) ∧ (fun k => ln k % 2 = 0 ∧ ky (ln k / 2) = key ∧ sm (ln k / 2) = 0 ∧ ea (ln k / 2) ≠ -1 ∧ ea (ln k / 2) < (lm_ fi ea ev fr)) k ∧ (∀ j : Int, cu ≤ j → j < k → ¬ (fun k => ln k % 2 = 0 ∧ ky (ln k / 2) = key ∧ sm (ln k / 2) = 0 ∧ ea (ln k / 2) ≠ -1 ∧ ea (ln k / 2) < (lm_ fi ea ev fr)) j) ∧ z = ln k / 2 ∧ ∃ (sa2 ea2 ln2 : Int → Int) (ni2 ns2 wa2 : Int), er_ sa ea ln ev cu (sa (ln k / 2)) sa2 ea2 ln2 ∧ ct_ sa2 sm wt ni2 ns2 wa2 K ∧ u = (ky, wt, sa2, ea2, sm, ln2, up_ fi fr (ln k / 2), up_ fk fr 2, up_ fo fr oo, op, ni2, ns2, rz_ (gp_ ln cu (sa (ln k / 2))) ev, sa2 (ln k / 2) + 1, wa2, fr + 1, oo))) := by
  refine mc_i_of (cc := cX0_take) (maxL := 3) (ret := (some .int)) (by decide) rfl (Nat.le_of_ble_eq_true rfl) ?_
  intro p e s m below meth c A ls hE hml hown hts hr hlk hA hK hh hl
  have hown : s.vm.findClass RX0 = some m.cls := hown
  have hX : ∀ w ∈ wsX_, w.before _ s = true := fun w h => hts w (List.mem_cons_of_mem _ h)
  have hl : lv_has ls 3 [(0, .ref (q 0)), (1, .int (zi_ key))] := hl
  obtain ⟨hf5, hf3, hf8, hc1, hc2, hfe, hkk, hk1, hf6, hwa0, hlst⟩ := ix_f hI
  obtain ⟨hw, hnv, hct, ⟨hf1, hf2, hi0, hk0, ho0⟩, hkd, hfo, hfm, ⟨hc0, hc3, hev, ho1, ho2⟩, hsm, hky, hwt, ⟨hK0, hwa⟩, hse⟩ := hI
  have hf4 : 0 ≤ oo ∧ oo ≤ 600 := ⟨ho1, by omega⟩
  refine lv_aload_n hE.1 hE.2 dX0_take_0 rfl (lv_at hl 0 rfl) ?_
  refine mc_call (rest := []) (As := []) hE hml hown hX hA hK hh (kX_lastKind l dC dI q cA ky wt sa ea sm ln fi fk fo op ni ns ev cu wa fr oo hf1 hf2) (cwV 0 hX qX_lastKind rfl rfl rfl (by decide +kernel) ⟨Nat.le_of_ble_eq_true rfl, Nat.le_of_ble_eq_true rfl⟩) rfl rfl hl.1 rfl (Nat.le_of_ble_eq_true rfl) dX0_take_1 ⟨Nat.zero_le _, Nat.zero_le _⟩ rfl (fun z_2 u H locs hq_1 hh => ?_)
  obtain ⟨rfl, rfl⟩ := hq_1
  refine zv_iconst hE dX0_take_4 ?_
  refine zv_icmp_ne (tgt := 17) hE dX0_take_5 (by decide) ⟨by omega, by omega⟩ ⟨by omega, by omega⟩ (fun hc_3 => ?_) (fun hc_3 => ?_)
  · refine zv_iconst hE dX0_take_17 ?_
    refine mc_ret (u := (ky, wt, sa, ea, sm, ln, fi, fk, fo, op, ni, ns, ev, cu, wa, fr, oo)) hE hr hlk hK hh dX0_take_18 ?_
    first | exact Or.inl ⟨rfl, rfl, Or.inr (Or.inr hzn)⟩ | exact Or.inl ⟨rfl, rfl, by omega⟩ | exact Or.inr ⟨by omega, by omega, k, hz0, hz1, hz2, hz3, rfl, sa2, ea2, ln2, ni2, ns2, wa2, her, hct2, rfl⟩ | (exfalso; omega)
  · refine lv_aload_n hE.1 hE.2 dX0_take_8 rfl (lv_at hl 0 rfl) ?_
    refine gX_frames hE hX hown hK hh dX0_take_9 ?_
    refine zv_bipush hE dX0_take_12 (by decide) ?_
    refine zv_icmp_lt (tgt := 19) hE dX0_take_14 (by decide) ⟨by omega, by omega⟩ ⟨by omega, by omega⟩ (fun hc_4 => ?_) (fun hc_4 => ?_)
    · refine lv_aload_n hE.1 hE.2 dX0_take_19 rfl (lv_at hl 0 rfl) ?_
      refine lv_iload_n hE.1 hE.2 dX0_take_20 rfl (lv_at hl 1 rfl) ?_
      refine mc_call (rest := []) (As := [.int (zi_ key)]) hE hml hown hX hA hK hh (kX_firstFreshAhead l dC dI q cA ky wt sa ea sm ln fi fk fo op ni ns ev cu wa fr oo key hf1 hf2 hf5 hw hsm hc0 hc1 hc2 hk9 hky) (cwV 1 hX qX_firstFreshAhead rfl rfl rfl (by decide +kernel) ⟨Nat.le_of_ble_eq_true rfl, Nat.le_of_ble_eq_true rfl⟩) rfl rfl hl.1 rfl (Nat.le_of_ble_eq_true rfl) dX0_take_21 ⟨Nat.zero_le _, Nat.zero_le _⟩ rfl (fun z_6 u H locs hq_5 hh => ?_)
      obtain ⟨rfl, hq_5⟩ := hq_5
      rcases hq_5 with ⟨rfl, hzn⟩ | ⟨k, hz0, hz1, hz2, rfl, hz3⟩
      · refine lv_istore_n (lv' := [(2, .int (zi_ (-1))), (0, .ref (q 0)), (1, .int (zi_ key))]) hE.1 hE.2 dX0_take_24 rfl hl (by decide) rfl (fun ls hl => ?_)
        refine lv_iload_n hE.1 hE.2 dX0_take_25 rfl (lv_at hl 0 rfl) ?_
        refine zv_iconst hE dX0_take_26 ?_
        refine zv_icmp_ne (tgt := 32) hE dX0_take_27 (by decide) ⟨by omega, by omega⟩ ⟨by omega, by omega⟩ (fun hc_7 => ?_) (fun hc_7 => ?_)
        · exact absurd hc_7 (by decide)
        · refine zv_iconst hE dX0_take_30 ?_
          refine mc_ret (u := (ky, wt, sa, ea, sm, ln, fi, fk, fo, op, ni, ns, ev, cu, wa, fr, oo)) hE hr hlk hK hh dX0_take_31 ?_
          first | exact Or.inl ⟨rfl, rfl, Or.inr (Or.inr hzn)⟩ | exact Or.inl ⟨rfl, rfl, by omega⟩ | exact Or.inr ⟨by omega, by omega, k, hz0, hz1, hz2, hz3, rfl, sa2, ea2, ln2, ni2, ns2, wa2, her, hct2, rfl⟩ | (exfalso; omega)
      · have hx2 := hw.2.2.2 k (by omega) (by omega)
        have hx3 := hx2.2.2.1 hz2.1
        have hd0 : 0 ≤ ln k / 2 := by omega
        have hd1 : ln k / 2 < 600 := by omega
        refine lv_istore_n (lv' := [(2, .int (zi_ (ln k / 2))), (0, .ref (q 0)), (1, .int (zi_ key))]) hE.1 hE.2 dX0_take_24 rfl hl (by decide) rfl (fun ls hl => ?_)
        refine lv_iload_n hE.1 hE.2 dX0_take_25 rfl (lv_at hl 0 rfl) ?_
        refine zv_iconst hE dX0_take_26 ?_
        refine zv_icmp_ne (tgt := 32) hE dX0_take_27 (by decide) ⟨by omega, by omega⟩ ⟨by omega, by omega⟩ (fun hc_8 => ?_) (fun hc_8 => ?_)
        · refine lv_aload_n hE.1 hE.2 dX0_take_32 rfl (lv_at hl 1 rfl) ?_
          refine lv_aload_n hE.1 hE.2 dX0_take_33 rfl (lv_at hl 1 rfl) ?_
          refine gX_cursor hE hX hown hK hh dX0_take_34 ?_
          refine lv_aload_n hE.1 hE.2 dX0_take_37 rfl (lv_at hl 1 rfl) ?_
          refine gX_startAt hE hX hown hK hh dX0_take_38 ?_
          refine lv_iload_n hE.1 hE.2 dX0_take_41 rfl (lv_at hl 0 rfl) ?_
          refine rX_startAt hE hK hh ⟨by omega, by omega⟩ dX0_take_42 ?_
          refine mc_callv (rest := []) (As := [.int (zi_ cu), .int (zi_ (sa (ln k / 2)))]) hE hml hown hX hA hK hh (kX_erase l dC dI q cA ky wt sa ea sm ln fi fk fo op ni ns ev cu wa fr oo cu (sa (ln k / 2)) K hw hct hsm (by omega) (by omega) (by omega)) (cwV 2 hX qX_erase rfl rfl rfl (by decide +kernel) ⟨Nat.le_of_ble_eq_true rfl, Nat.le_of_ble_eq_true rfl⟩) rfl rfl hl.1 rfl (Nat.le_of_ble_eq_true rfl) dX0_take_43 ⟨Nat.zero_le _, Nat.zero_le _⟩ rfl (fun u H locs hq_9 hh => ?_)
          obtain ⟨sa2, ea2, ln2, ni2, ns2, wa2, her, hct2, rfl⟩ := hq_9
          refine lv_aload_n hE.1 hE.2 dX0_take_46 rfl (lv_at hl 1 rfl) ?_
          refine lv_iload_n hE.1 hE.2 dX0_take_47 rfl (lv_at hl 0 rfl) ?_
          refine zv_iconst hE dX0_take_48 ?_
          refine mc_callv (rest := []) (As := [.int (zi_ (ln k / 2)), .int (zi_ 2)]) hE hml hown hX hA hK hh (kX_putFrame l dC dI q cA ky wt sa2 ea2 sm ln2 fi fk fo op ni2 ns2 (rz_ (gp_ ln cu (sa (ln k / 2))) ev) cu wa2 fr oo (ln k / 2) 2 hf1 (by omega) (by omega) (by omega)) (cwV 2 hX qX_putFrame rfl rfl rfl (by decide +kernel) ⟨Nat.le_of_ble_eq_true rfl, Nat.le_of_ble_eq_true rfl⟩) rfl rfl hl.1 rfl (Nat.le_of_ble_eq_true rfl) dX0_take_49 ⟨Nat.zero_le _, Nat.zero_le _⟩ rfl (fun u H locs hq_11 hh => ?_)
          subst hq_11
          refine lv_iload_n hE.1 hE.2 dX0_take_52 rfl (lv_at hl 0 rfl) ?_
          refine mc_ret (u := (ky, wt, sa2, ea2, sm, ln2, up_ fi fr (ln k / 2), up_ fk fr 2, up_ fo fr oo, op, ni2, ns2, rz_ (gp_ ln cu (sa (ln k / 2))) ev, sa2 (ln k / 2) + 1, wa2, fr + 1, oo)) hE hr hlk hK hh dX0_take_53 ?_
          first | exact Or.inl ⟨rfl, rfl, Or.inr (Or.inr hzn)⟩ | exact Or.inl ⟨rfl, rfl, by omega⟩ | exact Or.inr ⟨by omega, by omega, k, hz0, hz1, hz2, hz3, rfl, sa2, ea2, ln2, ni2, ns2, wa2, her, hct2, rfl⟩ | (exfalso; omega)
        · refine zv_iconst hE dX0_take_30 ?_
          refine mc_ret (u := (ky, wt, sa, ea, sm, ln, fi, fk, fo, op, ni, ns, ev, cu, wa, fr, oo)) hE hr hlk hK hh dX0_take_31 ?_
          first | exact Or.inl ⟨rfl, rfl, Or.inr (Or.inr hzn)⟩ | exact Or.inl ⟨rfl, rfl, by omega⟩ | exact Or.inr ⟨by omega, by omega, k, hz0, hz1, hz2, hz3, rfl, sa2, ea2, ln2, ni2, ns2, wa2, her, hct2, rfl⟩ | (exfalso; omega)
    · refine zv_iconst hE dX0_take_17 ?_
      refine mc_ret (u := (ky, wt, sa, ea, sm, ln, fi, fk, fo, op, ni, ns, ev, cu, wa, fr, oo)) hE hr hlk hK hh dX0_take_18 ?_
      first | exact Or.inl ⟨rfl, rfl, Or.inr (Or.inr hzn)⟩ | exact Or.inl ⟨rfl, rfl, by omega⟩ | exact Or.inr ⟨by omega, by omega, k, hz0, hz1, hz2, hz3, rfl, sa2, ea2, ln2, ni2, ns2, wa2, her, hct2, rfl⟩ | (exfalso; omega)
set_option maxHeartbeats 400000 in
set_option maxRecDepth 100000 in
theorem kX_done (l : Launch) (dC : Nat → ClassId) (dI : Nat → Nat → Nat) (q : Nat → Nat) (cA : Nat → ClassId) (ky wt sa ea sm ln fi fk fo op : Int → Int) (ni ns ev cu wa fr oo : Int) (K : Int) (hI : ix_ ky wt sa ea sm ln fi fk fo op ni ns ev cu wa fr oo K) : mc_i l (dC, dI) vwCl (tX_ cA) (wX_ q cA) yX0_done wsX0_done ({ frames := 4, cells := 0, slots := 0, locals := 160 }) (ky, wt, sa, ea, sm, ln, fi, fk, fo, op, ni, ns, ev, cu, wa, fr, oo) [.ref (q 0)] (fun (z : Int) (u : SX_) => (z = -1 ∧ u = (ky, wt, sa, ea, sm, ln, fi, fk, fo, op, ni, ns, ev, cu, wa, fr, oo) ∧ (fr = 1 ∨ fo (fr - 1) < oo)) ∨ (1 < fr ∧ oo ≤ fo (fr - 1) ∧ z = fi (fr - 1) ∧ ((fk (fr - 1) = 1 ∧ ∃ (sa2 ea2 ln2 : Int → Int) (ni2 ns2 wa2 : Int), er_ sa ea ln ev cu (ea (fi (fr - 1))) sa2 ea2 ln2 ∧ ct_ sa2 sm wt ni2 ns2 wa2 K ∧ u = (ky, wt, sa2, ea2, sm, ln2, fi, fk, fo, op, ni2, ns2, rz_ (gp_ ln cu (ea (fi (fr - 1)))) ev, ea2 (fi (fr - 1)) + 1, wa2, fr - 1, oo)) ∨ (fk (fr - 1) ≠ 1 ∧ u = (ky, wt, sa, ea, sm, ln, fi, fk, fo, op, ni, ns, ev, ea (fi (fr - 1)) + 1, wa, fr - 1, oo))))) := by
  refine mc_i_of (cc := cX0_done) (maxL := 2) (ret := (some .int)) (by decide) rfl (Nat.le_of_ble_eq_true rfl) ?_
  intro p e s m below meth c A ls hE hml hown hts hr hlk hA hK hh hl
  have hown : s.vm.findClass RX0 = some m.cls := hown
  have hX : ∀ w ∈ wsX_, w.before _ s = true := fun w h => hts w (List.mem_cons_of_mem _ h)
  have hl : lv_has ls 2 [(0, .ref (q 0))] := hl
  obtain ⟨hf5, hf3, hf8, hc1, hc2, hfe, hkk, hk1, hf6, hwa0, hlst⟩ := ix_f hI
  obtain ⟨hw, hnv, hct, ⟨hf1, hf2, hi0, hk0, ho0⟩, hkd, hfo, hfm, ⟨hc0, hc3, hev, ho1, ho2⟩, hsm, hky, hwt, ⟨hK0, hwa⟩, hse⟩ := hI
  have hf4 : 0 ≤ oo ∧ oo ≤ 600 := ⟨ho1, by omega⟩
  refine lv_aload_n hE.1 hE.2 dX0_done_0 rfl (lv_at hl 0 rfl) ?_
  refine mc_call (rest := []) (As := []) hE hml hown hX hA hK hh (kX_lastInterval l dC dI q cA ky wt sa ea sm ln fi fk fo op ni ns ev cu wa fr oo hf1 hf2) (cwV 0 hX qX_lastInterval rfl rfl rfl (by decide +kernel) ⟨Nat.le_of_ble_eq_true rfl, Nat.le_of_ble_eq_true rfl⟩) rfl rfl hl.1 rfl (Nat.le_of_ble_eq_true rfl) dX0_done_1 ⟨Nat.zero_le _, Nat.zero_le _⟩ rfl (fun z_2 u H locs hq_1 hh => ?_)
  obtain ⟨rfl, rfl⟩ := hq_1
  refine lv_istore_n (lv' := [(1, .int (zi_ (fi (fr - 1)))), (0, .ref (q 0))]) hE.1 hE.2 dX0_done_4 rfl hl (by decide) rfl (fun ls hl => ?_)
  refine lv_iload_n hE.1 hE.2 dX0_done_5 rfl (lv_at hl 0 rfl) ?_
  refine zv_iconst hE dX0_done_6 ?_
  refine zv_icmp_eq (tgt := 18) hE dX0_done_7 (by decide) ⟨by omega, by omega⟩ ⟨by omega, by omega⟩ (fun hc_3 => ?_) (fun hc_3 => ?_)
  · refine zv_iconst hE dX0_done_18 ?_
    refine mc_ret (u := (ky, wt, sa, ea, sm, ln, fi, fk, fo, op, ni, ns, ev, cu, wa, fr, oo)) hE hr hlk hK hh dX0_done_19 ?_
    first | exact Or.inl ⟨rfl, rfl, by omega⟩ | exact Or.inr ⟨by omega, by omega, rfl, Or.inl ⟨by omega, sa2, ea2, ln2, ni2, ns2, wa2, her, hct2, rfl⟩⟩ | exact Or.inr ⟨by omega, by omega, rfl, Or.inr ⟨by omega, rfl⟩⟩ | (exfalso; omega)
  · refine lv_aload_n hE.1 hE.2 dX0_done_10 rfl (lv_at hl 1 rfl) ?_
    refine mc_call (rest := []) (As := []) hE hml hown hX hA hK hh (kX_lastOpen l dC dI q cA ky wt sa ea sm ln fi fk fo op ni ns ev cu wa fr oo hf1 hf2 hf3 hf4) (cwV 0 hX qX_lastOpen rfl rfl rfl (by decide +kernel) ⟨Nat.le_of_ble_eq_true rfl, Nat.le_of_ble_eq_true rfl⟩) rfl rfl hl.1 rfl (Nat.le_of_ble_eq_true rfl) dX0_done_11 ⟨Nat.zero_le _, Nat.zero_le _⟩ rfl (fun z_5 u H locs hq_4 hh => ?_)
    obtain ⟨rfl, hq_4a, hq_4b⟩ := hq_4
    refine zv_iconst hE dX0_done_14 ?_
    refine zv_icmp_eq (tgt := 20) hE dX0_done_15 (by decide) ⟨by omega, by omega⟩ ⟨by omega, by omega⟩ (fun hc_6 => ?_) (fun hc_6 => ?_)
    · refine lv_aload_n hE.1 hE.2 dX0_done_20 rfl (lv_at hl 1 rfl) ?_
      refine mc_call (rest := []) (As := []) hE hml hown hX hA hK hh (kX_lastKind l dC dI q cA ky wt sa ea sm ln fi fk fo op ni ns ev cu wa fr oo hf1 hf2) (cwV 0 hX qX_lastKind rfl rfl rfl (by decide +kernel) ⟨Nat.le_of_ble_eq_true rfl, Nat.le_of_ble_eq_true rfl⟩) rfl rfl hl.1 rfl (Nat.le_of_ble_eq_true rfl) dX0_done_21 ⟨Nat.zero_le _, Nat.zero_le _⟩ rfl (fun z_8 u H locs hq_7 hh => ?_)
      obtain ⟨rfl, rfl⟩ := hq_7
      refine zv_iconst hE dX0_done_24 ?_
      refine zv_icmp_ne (tgt := 42) hE dX0_done_25 (by decide) ⟨by omega, by omega⟩ ⟨by omega, by omega⟩ (fun hc_9 => ?_) (fun hc_9 => ?_)
      · refine lv_aload_n hE.1 hE.2 dX0_done_42 rfl (lv_at hl 1 rfl) ?_
        refine lv_dup hE.1 hE.2 dX0_done_43 rfl ?_
        refine gX_frames hE hX hown hK hh dX0_done_44 ?_
        refine zv_iconst hE dX0_done_47 ?_
        refine zv_isub hE dX0_done_48 ?_
        refine pX_frames hE hX hown hK hh dX0_done_49 (fun H locs hh => ?_)
        refine lv_aload_n hE.1 hE.2 dX0_done_52 rfl (lv_at hl 1 rfl) ?_
        refine lv_aload_n hE.1 hE.2 dX0_done_53 rfl (lv_at hl 1 rfl) ?_
        refine gX_endAt hE hX hown hK hh dX0_done_54 ?_
        refine lv_iload_n hE.1 hE.2 dX0_done_57 rfl (lv_at hl 0 rfl) ?_
        refine rX_endAt hE hK hh ⟨by omega, by omega⟩ dX0_done_58 ?_
        refine zv_iconst hE dX0_done_59 ?_
        refine zv_iadd hE dX0_done_60 ?_
        refine pX_cursor hE hX hown hK hh dX0_done_61 (fun H locs hh => ?_)
        refine lv_iload_n hE.1 hE.2 dX0_done_64 rfl (lv_at hl 0 rfl) ?_
        refine mc_ret (u := (ky, wt, sa, ea, sm, ln, fi, fk, fo, op, ni, ns, ev, (ea (fi (fr - 1))) + 1, wa, fr - 1, oo)) hE hr hlk hK hh dX0_done_65 ?_
        first | exact Or.inl ⟨rfl, rfl, by omega⟩ | exact Or.inr ⟨by omega, by omega, rfl, Or.inl ⟨by omega, sa2, ea2, ln2, ni2, ns2, wa2, her, hct2, rfl⟩⟩ | exact Or.inr ⟨by omega, by omega, rfl, Or.inr ⟨by omega, rfl⟩⟩ | (exfalso; omega)
      · refine lv_aload_n hE.1 hE.2 dX0_done_28 rfl (lv_at hl 1 rfl) ?_
        refine lv_aload_n hE.1 hE.2 dX0_done_29 rfl (lv_at hl 1 rfl) ?_
        refine gX_cursor hE hX hown hK hh dX0_done_30 ?_
        refine lv_aload_n hE.1 hE.2 dX0_done_33 rfl (lv_at hl 1 rfl) ?_
        refine gX_endAt hE hX hown hK hh dX0_done_34 ?_
        refine lv_iload_n hE.1 hE.2 dX0_done_37 rfl (lv_at hl 0 rfl) ?_
        have hx := hlst (by omega)
        refine rX_endAt hE hK hh ⟨by omega, by omega⟩ dX0_done_38 ?_
        refine mc_callv (rest := []) (As := [.int (zi_ cu), .int (zi_ (ea (fi (fr - 1))))]) hE hml hown hX hA hK hh (kX_erase l dC dI q cA ky wt sa ea sm ln fi fk fo op ni ns ev cu wa fr oo cu (ea (fi (fr - 1))) K hw hct hsm (by omega) (by omega) (by omega)) (cwV 2 hX qX_erase rfl rfl rfl (by decide +kernel) ⟨Nat.le_of_ble_eq_true rfl, Nat.le_of_ble_eq_true rfl⟩) rfl rfl hl.1 rfl (Nat.le_of_ble_eq_true rfl) dX0_done_39 ⟨Nat.zero_le _, Nat.zero_le _⟩ rfl (fun u H locs hq_10 hh => ?_)
        obtain ⟨sa2, ea2, ln2, ni2, ns2, wa2, her, hct2, rfl⟩ := hq_10
        refine lv_aload_n hE.1 hE.2 dX0_done_42 rfl (lv_at hl 1 rfl) ?_
        refine lv_dup hE.1 hE.2 dX0_done_43 rfl ?_
        refine gX_frames hE hX hown hK hh dX0_done_44 ?_
        refine zv_iconst hE dX0_done_47 ?_
        refine zv_isub hE dX0_done_48 ?_
        refine pX_frames hE hX hown hK hh dX0_done_49 (fun H locs hh => ?_)
        refine lv_aload_n hE.1 hE.2 dX0_done_52 rfl (lv_at hl 1 rfl) ?_
        refine lv_aload_n hE.1 hE.2 dX0_done_53 rfl (lv_at hl 1 rfl) ?_
        refine gX_endAt hE hX hown hK hh dX0_done_54 ?_
        refine lv_iload_n hE.1 hE.2 dX0_done_57 rfl (lv_at hl 0 rfl) ?_
        refine rX_endAt hE hK hh ⟨by omega, by omega⟩ dX0_done_58 ?_
        refine zv_iconst hE dX0_done_59 ?_
        refine zv_iadd hE dX0_done_60 ?_
        refine pX_cursor hE hX hown hK hh dX0_done_61 (fun H locs hh => ?_)
        refine lv_iload_n hE.1 hE.2 dX0_done_64 rfl (lv_at hl 0 rfl) ?_
        refine mc_ret (u := (ky, wt, sa2, ea2, sm, ln2, fi, fk, fo, op, ni2, ns2, rz_ (gp_ ln cu (ea (fi (fr - 1)))) ev, (ea2 (fi (fr - 1))) + 1, wa2, fr - 1, oo)) hE hr hlk hK hh dX0_done_65 ?_
        first | exact Or.inl ⟨rfl, rfl, by omega⟩ | exact Or.inr ⟨by omega, by omega, rfl, Or.inl ⟨by omega, sa2, ea2, ln2, ni2, ns2, wa2, her, hct2, rfl⟩⟩ | exact Or.inr ⟨by omega, by omega, rfl, Or.inr ⟨by omega, rfl⟩⟩ | (exfalso; omega)
    · refine zv_iconst hE dX0_done_18 ?_
      refine mc_ret (u := (ky, wt, sa, ea, sm, ln, fi, fk, fo, op, ni, ns, ev, cu, wa, fr, oo)) hE hr hlk hK hh dX0_done_19 ?_
      first | exact Or.inl ⟨rfl, rfl, by omega⟩ | exact Or.inr ⟨by omega, by omega, rfl, Or.inl ⟨by omega, sa2, ea2, ln2, ni2, ns2, wa2, her, hct2, rfl⟩⟩ | exact Or.inr ⟨by omega, by omega, rfl, Or.inr ⟨by omega, rfl⟩⟩ | (exfalso; omega)
set_option maxHeartbeats 400000 in
set_option maxRecDepth 100000 in
theorem kX_toEnd (l : Launch) (dC : Nat → ClassId) (dI : Nat → Nat → Nat) (q : Nat → Nat) (cA : Nat → ClassId) (ky wt sa ea sm ln fi fk fo op : Int → Int) (ni ns ev cu wa fr oo : Int) (K : Int) (hI : ix_ ky wt sa ea sm ln fi fk fo op ni ns ev cu wa fr oo K) : mc_i l (dC, dI) vwCl (tX_ cA) (wX_ q cA) yX0_toEnd wsX0_toEnd ({ frames := 4, cells := 0, slots := 0, locals := 160 }) (ky, wt, sa, ea, sm, ln, fi, fk, fo, op, ni, ns, ev, cu, wa, fr, oo) [.ref (q 0)] (fun (z : Int) (u : SX_) => (z = 1 ∧ fr = 1 ∧ oo ≤ fo (fr - 1) ∧ u = (ky, wt, sa, ea, sm, ln, fi, fk, fo, op, ni, ns, ev, ev, wa, fr, oo)) ∨ (z = 0 ∧ (fr ≠ 1 ∨ fo (fr - 1) < oo) ∧ u = (ky, wt, sa, ea, sm, ln, fi, fk, fo, op, ni, ns, ev, cu, wa, fr, oo))) := by
  refine mc_i_of (cc := cX0_toEnd) (maxL := 1) (ret := (some .boolean)) (by decide) rfl (Nat.le_of_ble_eq_true rfl) ?_
  intro p e s m below meth c A ls hE hml hown hts hr hlk hA hK hh hl
  have hown : s.vm.findClass RX0 = some m.cls := hown
  have hX : ∀ w ∈ wsX_, w.before _ s = true := fun w h => hts w (List.mem_cons_of_mem _ h)
  have hl : lv_has ls 1 [(0, .ref (q 0))] := hl
  obtain ⟨hf5, hf3, hf8, hc1, hc2, hfe, hkk, hk1, hf6, hwa0, hlst⟩ := ix_f hI
  obtain ⟨hw, hnv, hct, ⟨hf1, hf2, hi0, hk0, ho0⟩, hkd, hfo, hfm, ⟨hc0, hc3, hev, ho1, ho2⟩, hsm, hky, hwt, ⟨hK0, hwa⟩, hse⟩ := hI
  have hf4 : 0 ≤ oo ∧ oo ≤ 600 := ⟨ho1, by omega⟩
  refine lv_aload_n hE.1 hE.2 dX0_toEnd_0 rfl (lv_at hl 0 rfl) ?_
  refine mc_call (rest := []) (As := []) hE hml hown hX hA hK hh (kX_mayMove l dC dI q cA ky wt sa ea sm ln fi fk fo op ni ns ev cu wa fr oo hf1 hf2 hf3 hf4 hf6) (cwV 0 hX qX_mayMove rfl rfl rfl (by decide +kernel) ⟨Nat.le_of_ble_eq_true rfl, Nat.le_of_ble_eq_true rfl⟩) rfl rfl hl.1 rfl (Nat.le_of_ble_eq_true rfl) dX0_toEnd_1 ⟨Nat.zero_le _, Nat.zero_le _⟩ rfl (fun z_2 u H locs hq_1 hh => ?_)
  obtain ⟨rfl, hq_1a, hq_1b⟩ := hq_1
  have hq_1z : zr_ z_2 := ⟨by omega, by omega⟩
  refine zv_if_ne (tgt := 9) hE dX0_toEnd_4 (by decide) ⟨by omega, by omega⟩ (fun hc_3 => ?_) (fun hc_3 => ?_)
  · refine lv_aload_n hE.1 hE.2 dX0_toEnd_9 rfl (lv_at hl 0 rfl) ?_
    refine lv_aload_n hE.1 hE.2 dX0_toEnd_10 rfl (lv_at hl 0 rfl) ?_
    refine gX_events hE hX hown hK hh dX0_toEnd_11 ?_
    refine pX_cursor hE hX hown hK hh dX0_toEnd_14 (fun H locs hh => ?_)
    refine zv_iconst hE dX0_toEnd_17 ?_
    refine mc_retz (u := (ky, wt, sa, ea, sm, ln, fi, fk, fo, op, ni, ns, ev, ev, wa, fr, oo)) hE hr hlk hK hh dX0_toEnd_18 (by first | exact Or.inl rfl | exact Or.inr rfl | assumption) ?_
    first | exact Or.inl ⟨rfl, by omega, by omega, rfl⟩ | exact Or.inr ⟨rfl, by omega, rfl⟩
  · refine zv_iconst hE dX0_toEnd_7 ?_
    refine mc_retz (u := (ky, wt, sa, ea, sm, ln, fi, fk, fo, op, ni, ns, ev, cu, wa, fr, oo)) hE hr hlk hK hh dX0_toEnd_8 (by first | exact Or.inl rfl | exact Or.inr rfl | assumption) ?_
    first | exact Or.inl ⟨rfl, by omega, by omega, rfl⟩ | exact Or.inr ⟨rfl, by omega, rfl⟩
set_option maxHeartbeats 400000 in
set_option maxRecDepth 100000 in
theorem kX_toBegin (l : Launch) (dC : Nat → ClassId) (dI : Nat → Nat → Nat) (q : Nat → Nat) (cA : Nat → ClassId) (ky wt sa ea sm ln fi fk fo op : Int → Int) (ni ns ev cu wa fr oo : Int) (K : Int) (hI : ix_ ky wt sa ea sm ln fi fk fo op ni ns ev cu wa fr oo K) : mc_i l (dC, dI) vwCl (tX_ cA) (wX_ q cA) yX0_toBegin wsX0_toBegin ({ frames := 4, cells := 0, slots := 0, locals := 160 }) (ky, wt, sa, ea, sm, ln, fi, fk, fo, op, ni, ns, ev, cu, wa, fr, oo) [.ref (q 0)] (fun (z : Int) (u : SX_) => (z = 1 ∧ fr = 1 ∧ oo ≤ fo (fr - 1) ∧ u = (ky, wt, sa, ea, sm, ln, fi, fk, fo, op, ni, ns, ev, 0, wa, fr, oo)) ∨ (z = 0 ∧ (fr ≠ 1 ∨ fo (fr - 1) < oo) ∧ u = (ky, wt, sa, ea, sm, ln, fi, fk, fo, op, ni, ns, ev, cu, wa, fr, oo))) := by
  refine mc_i_of (cc := cX0_toBegin) (maxL := 1) (ret := (some .boolean)) (by decide) rfl (Nat.le_of_ble_eq_true rfl) ?_
  intro p e s m below meth c A ls hE hml hown hts hr hlk hA hK hh hl
  have hown : s.vm.findClass RX0 = some m.cls := hown
  have hX : ∀ w ∈ wsX_, w.before _ s = true := fun w h => hts w (List.mem_cons_of_mem _ h)
  have hl : lv_has ls 1 [(0, .ref (q 0))] := hl
  obtain ⟨hf5, hf3, hf8, hc1, hc2, hfe, hkk, hk1, hf6, hwa0, hlst⟩ := ix_f hI
  obtain ⟨hw, hnv, hct, ⟨hf1, hf2, hi0, hk0, ho0⟩, hkd, hfo, hfm, ⟨hc0, hc3, hev, ho1, ho2⟩, hsm, hky, hwt, ⟨hK0, hwa⟩, hse⟩ := hI
  have hf4 : 0 ≤ oo ∧ oo ≤ 600 := ⟨ho1, by omega⟩
  refine lv_aload_n hE.1 hE.2 dX0_toBegin_0 rfl (lv_at hl 0 rfl) ?_
  refine mc_call (rest := []) (As := []) hE hml hown hX hA hK hh (kX_mayMove l dC dI q cA ky wt sa ea sm ln fi fk fo op ni ns ev cu wa fr oo hf1 hf2 hf3 hf4 hf6) (cwV 0 hX qX_mayMove rfl rfl rfl (by decide +kernel) ⟨Nat.le_of_ble_eq_true rfl, Nat.le_of_ble_eq_true rfl⟩) rfl rfl hl.1 rfl (Nat.le_of_ble_eq_true rfl) dX0_toBegin_1 ⟨Nat.zero_le _, Nat.zero_le _⟩ rfl (fun z_2 u H locs hq_1 hh => ?_)
  obtain ⟨rfl, hq_1a, hq_1b⟩ := hq_1
  have hq_1z : zr_ z_2 := ⟨by omega, by omega⟩
  refine zv_if_ne (tgt := 9) hE dX0_toBegin_4 (by decide) ⟨by omega, by omega⟩ (fun hc_3 => ?_) (fun hc_3 => ?_)
  · refine lv_aload_n hE.1 hE.2 dX0_toBegin_9 rfl (lv_at hl 0 rfl) ?_
    refine zv_iconst hE dX0_toBegin_10 ?_
    refine pX_cursor hE hX hown hK hh dX0_toBegin_11 (fun H locs hh => ?_)
    refine zv_iconst hE dX0_toBegin_14 ?_
    refine mc_retz (u := (ky, wt, sa, ea, sm, ln, fi, fk, fo, op, ni, ns, ev, 0, wa, fr, oo)) hE hr hlk hK hh dX0_toBegin_15 (by first | exact Or.inl rfl | exact Or.inr rfl | assumption) ?_
    first | exact Or.inl ⟨rfl, by omega, by omega, rfl⟩ | exact Or.inr ⟨rfl, by omega, rfl⟩
  · refine zv_iconst hE dX0_toBegin_7 ?_
    refine mc_retz (u := (ky, wt, sa, ea, sm, ln, fi, fk, fo, op, ni, ns, ev, cu, wa, fr, oo)) hE hr hlk hK hh dX0_toBegin_8 (by first | exact Or.inl rfl | exact Or.inr rfl | assumption) ?_
    first | exact Or.inl ⟨rfl, by omega, by omega, rfl⟩ | exact Or.inr ⟨rfl, by omega, rfl⟩
set_option maxHeartbeats 400000 in
set_option maxRecDepth 100000 in
theorem kX_wipe (l : Launch) (dC : Nat → ClassId) (dI : Nat → Nat → Nat) (q : Nat → Nat) (cA : Nat → ClassId) (ky wt sa ea sm ln fi fk fo op : Int → Int) (ni ns ev cu wa fr oo : Int)  : mc_v l (dC, dI) vwCl (tX_ cA) (wX_ q cA) yX0_wipe wsX0_wipe ({ frames := 1, cells := 0, slots := 0, locals := 40 }) (ky, wt, sa, ea, sm, ln, fi, fk, fo, op, ni, ns, ev, cu, wa, fr, oo) [.ref (q 0)] (fun (u : SX_) => ∃ sa1 : Int → Int, (∀ j : Int, 0 ≤ j → j < 600 → sa1 j = -1) ∧ u = (ky, wt, sa1, ea, sm, ln, up_ fi 0 (-1), up_ fk 0 0, up_ fo 0 0, op, 0, 0, 0, 0, 0, 1, 0)) := by
  refine mc_v_of (cc := cX0_wipe) (maxL := 1) (ret := none) (by decide) rfl (Nat.le_of_ble_eq_true rfl) ?_
  intro p e s m below meth c A ls hE hml hown hts hr hlk hA hK hh hl
  have hown : s.vm.findClass RX0 = some m.cls := hown
  have hX : ∀ w ∈ wsX_, w.before _ s = true := fun w h => hts w (List.mem_cons_of_mem _ h)
  have hl : lv_has ls 1 [(0, .ref (q 0))] := hl
  refine lv_aload_n hE.1 hE.2 dX0_wipe_0 rfl (lv_at hl 0 rfl) ?_
  refine mc_callv (rest := []) (As := []) hE hml hown hX hA hK hh (kX_makeEmpty l dC dI q cA ky wt sa ea sm ln fi fk fo op ni ns ev cu wa fr oo) (cwV 0 hX qX_makeEmpty rfl rfl rfl (by decide +kernel) ⟨Nat.le_of_ble_eq_true rfl, Nat.le_of_ble_eq_true rfl⟩) rfl rfl hl.1 rfl (Nat.le_of_ble_eq_true rfl) dX0_wipe_1 ⟨Nat.zero_le _, Nat.zero_le _⟩ rfl (fun u H locs hq_1 hh => ?_)
  obtain ⟨sa1, hsa1, rfl⟩ := hq_1
  refine mc_retv (u := (ky, wt, sa1, ea, sm, ln, up_ fi 0 (-1), up_ fk 0 0, up_ fo 0 0, op, 0, 0, 0, 0, 0, 1, 0)) hE hr hlk hK hh dX0_wipe_4 ?_
  exact ⟨sa1, hsa1, rfl⟩
set_option maxHeartbeats 400000 in
set_option maxRecDepth 100000 in
theorem kX_event (l : Launch) (dC : Nat → ClassId) (dI : Nat → Nat → Nat) (q : Nat → Nat) (cA : Nat → ClassId) (ky wt sa ea sm ln fi fk fo op : Int → Int) (ni ns ev cu wa fr oo : Int) (k : Int) (K : Int) (hI : ix_ ky wt sa ea sm ln fi fk fo op ni ns ev cu wa fr oo K) (hk9 : zr_ k) : mc_i l (dC, dI) vwCl (tX_ cA) (wX_ q cA) yX0_event wsX0_event ({ frames := 4, cells := 0, slots := 0, locals := 160 }) (ky, wt, sa, ea, sm, ln, fi, fk, fo, op, ni, ns, ev, cu, wa, fr, oo) [.ref (q 0), .int (zi_ k)] (fun (z : Int) (u : SX_) => u = (ky, wt, sa, ea, sm, ln, fi, fk, fo, op, ni, ns, ev, cu, wa, fr, oo) ∧ ((0 ≤ k ∧ k < ev ∧ z = ln k) ∨ ((k < 0 ∨ ev ≤ k) ∧ z = -1))) := by
  refine mc_i_of (cc := cX0_event) (maxL := 2) (ret := (some .int)) (by decide) rfl (Nat.le_of_ble_eq_true rfl) ?_
  intro p e s m below meth c A ls hE hml hown hts hr hlk hA hK hh hl
  have hown : s.vm.findClass RX0 = some m.cls := hown
  have hX : ∀ w ∈ wsX_, w.before _ s = true := fun w h => hts w (List.mem_cons_of_mem _ h)
  have hl : lv_has ls 2 [(0, .ref (q 0)), (1, .int (zi_ k))] := hl
  obtain ⟨hf5, hf3, hf8, hc1, hc2, hfe, hkk, hk1, hf6, hwa0, hlst⟩ := ix_f hI
  obtain ⟨hw, hnv, hct, ⟨hf1, hf2, hi0, hk0, ho0⟩, hkd, hfo, hfm, ⟨hc0, hc3, hev, ho1, ho2⟩, hsm, hky, hwt, ⟨hK0, hwa⟩, hse⟩ := hI
  have hf4 : 0 ≤ oo ∧ oo ≤ 600 := ⟨ho1, by omega⟩
  refine lv_iload_n hE.1 hE.2 dX0_event_0 rfl (lv_at hl 1 rfl) ?_
  refine zv_if_lt (tgt := 21) hE dX0_event_1 (by decide) ⟨by omega, by omega⟩ (fun hc_1 => ?_) (fun hc_1 => ?_)
  · refine zv_iconst hE dX0_event_21 ?_
    refine mc_ret (u := (ky, wt, sa, ea, sm, ln, fi, fk, fo, op, ni, ns, ev, cu, wa, fr, oo)) hE hr hlk hK hh dX0_event_22 ?_
    exact ⟨rfl, by omega⟩
  · refine lv_iload_n hE.1 hE.2 dX0_event_4 rfl (lv_at hl 1 rfl) ?_
    refine lv_aload_n hE.1 hE.2 dX0_event_5 rfl (lv_at hl 0 rfl) ?_
    refine gX_events hE hX hown hK hh dX0_event_6 ?_
    refine zv_icmp_ge (tgt := 21) hE dX0_event_9 (by decide) ⟨by omega, by omega⟩ ⟨by omega, by omega⟩ (fun hc_2 => ?_) (fun hc_2 => ?_)
    · refine zv_iconst hE dX0_event_21 ?_
      refine mc_ret (u := (ky, wt, sa, ea, sm, ln, fi, fk, fo, op, ni, ns, ev, cu, wa, fr, oo)) hE hr hlk hK hh dX0_event_22 ?_
      exact ⟨rfl, by omega⟩
    · refine lv_aload_n hE.1 hE.2 dX0_event_12 rfl (lv_at hl 0 rfl) ?_
      refine gX_line hE hX hown hK hh dX0_event_13 ?_
      refine lv_iload_n hE.1 hE.2 dX0_event_16 rfl (lv_at hl 1 rfl) ?_
      refine rX_line hE hK hh ⟨by omega, by omega⟩ dX0_event_17 ?_
      refine lv_goto (tgt := 22) hE.1 hE.2 dX0_event_18 (by decide) ?_
      refine mc_ret (u := (ky, wt, sa, ea, sm, ln, fi, fk, fo, op, ni, ns, ev, cu, wa, fr, oo)) hE hr hlk hK hh dX0_event_22 ?_
      exact ⟨rfl, by omega⟩
set_option maxHeartbeats 400000 in
set_option maxRecDepth 100000 in
theorem kX_look (l : Launch) (dC : Nat → ClassId) (dI : Nat → Nat → Nat) (q : Nat → Nat) (cA : Nat → ClassId) (ky wt sa ea sm ln fi fk fo op : Int → Int) (ni ns ev cu wa fr oo : Int) (wh : Int) (K : Int) (hI : ix_ ky wt sa ea sm ln fi fk fo op ni ns ev cu wa fr oo K) (hk9 : zr_ wh) : mc_i l (dC, dI) vwCl (tX_ cA) (wX_ q cA) yX0_look wsX0_look ({ frames := 4, cells := 0, slots := 0, locals := 160 }) (ky, wt, sa, ea, sm, ln, fi, fk, fo, op, ni, ns, ev, cu, wa, fr, oo) [.ref (q 0), .int (zi_ wh)] (fun (z : Int) (u : SX_) => u = (ky, wt, sa, ea, sm, ln, fi, fk, fo, op, ni, ns, ev, cu, wa, fr, oo) ∧ (wh = 0 → z = ni) ∧ (wh = 1 → z = ev) ∧ (wh = 2 → z = cu) ∧ (wh = 3 → z = fr) ∧ (wh = 4 → z = wa) ∧ (wh = 5 → z = ns) ∧ (wh = 6 → z = fi (fr - 1)) ∧ (wh = 7 → (fo (fr - 1) < oo → z = op (oo - 1)) ∧ (oo ≤ fo (fr - 1) → z = -1)) ∧ (wh = 8 → z = fk (fr - 1)) ∧ (wh = 9 → z = lm_ fi ea ev fr - cu) ∧ (wh < 0 ∨ 9 < wh → z = -1)) := by
  refine mc_i_of (cc := cX0_look) (maxL := 2) (ret := (some .int)) (by decide) rfl (Nat.le_of_ble_eq_true rfl) ?_
  intro p e s m below meth c A ls hE hml hown hts hr hlk hA hK hh hl
  have hown : s.vm.findClass RX0 = some m.cls := hown
  have hX : ∀ w ∈ wsX_, w.before _ s = true := fun w h => hts w (List.mem_cons_of_mem _ h)
  have hl : lv_has ls 2 [(0, .ref (q 0)), (1, .int (zi_ wh))] := hl
  obtain ⟨hf5, hf3, hf8, hc1, hc2, hfe, hkk, hk1, hf6, hwa0, hlst⟩ := ix_f hI
  obtain ⟨hw, hnv, hct, ⟨hf1, hf2, hi0, hk0, ho0⟩, hkd, hfo, hfm, ⟨hc0, hc3, hev, ho1, ho2⟩, hsm, hky, hwt, ⟨hK0, hwa⟩, hse⟩ := hI
  have hf4 : 0 ≤ oo ∧ oo ≤ 600 := ⟨ho1, by omega⟩
  refine lv_iload_n hE.1 hE.2 dX0_look_0 rfl (lv_at hl 1 rfl) ?_
  rcases (show wh = 0 ∨ wh = 1 ∨ wh = 2 ∨ wh = 3 ∨ wh = 4 ∨ wh = 5 ∨ wh = 6 ∨ wh = 7 ∨ wh = 8 ∨ wh = 9 ∨ (wh < 0 ∨ 9 < wh) by omega) with hsw | hsw | hsw | hsw | hsw | hsw | hsw | hsw | hsw | hsw | hsw
  · subst hsw
    refine zv_tblIn (tgt := 56) hE dX0_look_1 ⟨by decide, by decide⟩ (by decide) (by decide) rfl (by decide) ?_
    refine lv_aload_n hE.1 hE.2 dX0_look_56 rfl (lv_at hl 0 rfl) ?_
    refine gX_intervals hE hX hown hK hh dX0_look_57 ?_
    refine mc_ret (u := (ky, wt, sa, ea, sm, ln, fi, fk, fo, op, ni, ns, ev, cu, wa, fr, oo)) hE hr hlk hK hh dX0_look_60 ?_
    exact ⟨rfl, by omega, by omega, by omega, by omega, by omega, by omega, by omega, by omega, by omega, by omega, by omega⟩
  · subst hsw
    refine zv_tblIn (tgt := 61) hE dX0_look_1 ⟨by decide, by decide⟩ (by decide) (by decide) rfl (by decide) ?_
    refine lv_aload_n hE.1 hE.2 dX0_look_61 rfl (lv_at hl 0 rfl) ?_
    refine gX_events hE hX hown hK hh dX0_look_62 ?_
    refine mc_ret (u := (ky, wt, sa, ea, sm, ln, fi, fk, fo, op, ni, ns, ev, cu, wa, fr, oo)) hE hr hlk hK hh dX0_look_65 ?_
    exact ⟨rfl, by omega, by omega, by omega, by omega, by omega, by omega, by omega, by omega, by omega, by omega, by omega⟩
  · subst hsw
    refine zv_tblIn (tgt := 66) hE dX0_look_1 ⟨by decide, by decide⟩ (by decide) (by decide) rfl (by decide) ?_
    refine lv_aload_n hE.1 hE.2 dX0_look_66 rfl (lv_at hl 0 rfl) ?_
    refine gX_cursor hE hX hown hK hh dX0_look_67 ?_
    refine mc_ret (u := (ky, wt, sa, ea, sm, ln, fi, fk, fo, op, ni, ns, ev, cu, wa, fr, oo)) hE hr hlk hK hh dX0_look_70 ?_
    exact ⟨rfl, by omega, by omega, by omega, by omega, by omega, by omega, by omega, by omega, by omega, by omega, by omega⟩
  · subst hsw
    refine zv_tblIn (tgt := 71) hE dX0_look_1 ⟨by decide, by decide⟩ (by decide) (by decide) rfl (by decide) ?_
    refine lv_aload_n hE.1 hE.2 dX0_look_71 rfl (lv_at hl 0 rfl) ?_
    refine gX_frames hE hX hown hK hh dX0_look_72 ?_
    refine mc_ret (u := (ky, wt, sa, ea, sm, ln, fi, fk, fo, op, ni, ns, ev, cu, wa, fr, oo)) hE hr hlk hK hh dX0_look_75 ?_
    exact ⟨rfl, by omega, by omega, by omega, by omega, by omega, by omega, by omega, by omega, by omega, by omega, by omega⟩
  · subst hsw
    refine zv_tblIn (tgt := 76) hE dX0_look_1 ⟨by decide, by decide⟩ (by decide) (by decide) rfl (by decide) ?_
    refine lv_aload_n hE.1 hE.2 dX0_look_76 rfl (lv_at hl 0 rfl) ?_
    refine gX_weightInAll hE hX hown hK hh dX0_look_77 ?_
    refine mc_ret (u := (ky, wt, sa, ea, sm, ln, fi, fk, fo, op, ni, ns, ev, cu, wa, fr, oo)) hE hr hlk hK hh dX0_look_80 ?_
    exact ⟨rfl, by omega, by omega, by omega, by omega, by omega, by omega, by omega, by omega, by omega, by omega, by omega⟩
  · subst hsw
    refine zv_tblIn (tgt := 81) hE dX0_look_1 ⟨by decide, by decide⟩ (by decide) (by decide) rfl (by decide) ?_
    refine lv_aload_n hE.1 hE.2 dX0_look_81 rfl (lv_at hl 0 rfl) ?_
    refine gX_staleOnes hE hX hown hK hh dX0_look_82 ?_
    refine mc_ret (u := (ky, wt, sa, ea, sm, ln, fi, fk, fo, op, ni, ns, ev, cu, wa, fr, oo)) hE hr hlk hK hh dX0_look_85 ?_
    exact ⟨rfl, by omega, by omega, by omega, by omega, by omega, by omega, by omega, by omega, by omega, by omega, by omega⟩
  · subst hsw
    refine zv_tblIn (tgt := 86) hE dX0_look_1 ⟨by decide, by decide⟩ (by decide) (by decide) rfl (by decide) ?_
    refine lv_aload_n hE.1 hE.2 dX0_look_86 rfl (lv_at hl 0 rfl) ?_
    refine mc_call (rest := []) (As := []) hE hml hown hX hA hK hh (kX_lastInterval l dC dI q cA ky wt sa ea sm ln fi fk fo op ni ns ev cu wa fr oo hf1 hf2) (cwV 0 hX qX_lastInterval rfl rfl rfl (by decide +kernel) ⟨Nat.le_of_ble_eq_true rfl, Nat.le_of_ble_eq_true rfl⟩) rfl rfl hl.1 rfl (Nat.le_of_ble_eq_true rfl) dX0_look_87 ⟨Nat.zero_le _, Nat.zero_le _⟩ rfl (fun z_2 u H locs hq_1 hh => ?_)
    obtain ⟨rfl, rfl⟩ := hq_1
    refine mc_ret (u := (ky, wt, sa, ea, sm, ln, fi, fk, fo, op, ni, ns, ev, cu, wa, fr, oo)) hE hr hlk hK hh dX0_look_90 ?_
    exact ⟨rfl, by omega, by omega, by omega, by omega, by omega, by omega, by omega, by omega, by omega, by omega, by omega⟩
  · subst hsw
    refine zv_tblIn (tgt := 91) hE dX0_look_1 ⟨by decide, by decide⟩ (by decide) (by decide) rfl (by decide) ?_
    refine lv_aload_n hE.1 hE.2 dX0_look_91 rfl (lv_at hl 0 rfl) ?_
    refine mc_call (rest := []) (As := []) hE hml hown hX hA hK hh (kX_lastOpen l dC dI q cA ky wt sa ea sm ln fi fk fo op ni ns ev cu wa fr oo hf1 hf2 hf3 hf4) (cwV 0 hX qX_lastOpen rfl rfl rfl (by decide +kernel) ⟨Nat.le_of_ble_eq_true rfl, Nat.le_of_ble_eq_true rfl⟩) rfl rfl hl.1 rfl (Nat.le_of_ble_eq_true rfl) dX0_look_92 ⟨Nat.zero_le _, Nat.zero_le _⟩ rfl (fun z_4 u H locs hq_3 hh => ?_)
    obtain ⟨rfl, hq_3a, hq_3b⟩ := hq_3
    refine mc_ret (u := (ky, wt, sa, ea, sm, ln, fi, fk, fo, op, ni, ns, ev, cu, wa, fr, oo)) hE hr hlk hK hh dX0_look_95 ?_
    exact ⟨rfl, by omega, by omega, by omega, by omega, by omega, by omega, by omega, by omega, by omega, by omega, by omega⟩
  · subst hsw
    refine zv_tblIn (tgt := 96) hE dX0_look_1 ⟨by decide, by decide⟩ (by decide) (by decide) rfl (by decide) ?_
    refine lv_aload_n hE.1 hE.2 dX0_look_96 rfl (lv_at hl 0 rfl) ?_
    refine mc_call (rest := []) (As := []) hE hml hown hX hA hK hh (kX_lastKind l dC dI q cA ky wt sa ea sm ln fi fk fo op ni ns ev cu wa fr oo hf1 hf2) (cwV 0 hX qX_lastKind rfl rfl rfl (by decide +kernel) ⟨Nat.le_of_ble_eq_true rfl, Nat.le_of_ble_eq_true rfl⟩) rfl rfl hl.1 rfl (Nat.le_of_ble_eq_true rfl) dX0_look_97 ⟨Nat.zero_le _, Nat.zero_le _⟩ rfl (fun z_6 u H locs hq_5 hh => ?_)
    obtain ⟨rfl, rfl⟩ := hq_5
    refine mc_ret (u := (ky, wt, sa, ea, sm, ln, fi, fk, fo, op, ni, ns, ev, cu, wa, fr, oo)) hE hr hlk hK hh dX0_look_100 ?_
    exact ⟨rfl, by omega, by omega, by omega, by omega, by omega, by omega, by omega, by omega, by omega, by omega, by omega⟩
  · subst hsw
    refine zv_tblIn (tgt := 101) hE dX0_look_1 ⟨by decide, by decide⟩ (by decide) (by decide) rfl (by decide) ?_
    refine lv_aload_n hE.1 hE.2 dX0_look_101 rfl (lv_at hl 0 rfl) ?_
    refine mc_call (rest := []) (As := []) hE hml hown hX hA hK hh (kX_aheadUpTo l dC dI q cA ky wt sa ea sm ln fi fk fo op ni ns ev cu wa fr oo hf1 hf2 hf5) (cwV 0 hX qX_aheadUpTo rfl rfl rfl (by decide +kernel) ⟨Nat.le_of_ble_eq_true rfl, Nat.le_of_ble_eq_true rfl⟩) rfl rfl hl.1 rfl (Nat.le_of_ble_eq_true rfl) dX0_look_102 ⟨Nat.zero_le _, Nat.zero_le _⟩ rfl (fun z_8 u H locs hq_7 hh => ?_)
    obtain ⟨rfl, rfl⟩ := hq_7
    refine lv_aload_n hE.1 hE.2 dX0_look_105 rfl (lv_at hl 0 rfl) ?_
    refine gX_cursor hE hX hown hK hh dX0_look_106 ?_
    refine zv_isub hE dX0_look_109 ?_
    refine mc_ret (u := (ky, wt, sa, ea, sm, ln, fi, fk, fo, op, ni, ns, ev, cu, wa, fr, oo)) hE hr hlk hK hh dX0_look_110 ?_
    exact ⟨rfl, by omega, by omega, by omega, by omega, by omega, by omega, by omega, by omega, by omega, by omega, by omega⟩
  · refine zv_tblOut (tgt := 111) hE dX0_look_1 ⟨by omega, by omega⟩ hsw (by decide) ?_
    refine zv_iconst hE dX0_look_111 ?_
    refine mc_ret (u := (ky, wt, sa, ea, sm, ln, fi, fk, fo, op, ni, ns, ev, cu, wa, fr, oo)) hE hr hlk hK hh dX0_look_112 ?_
    exact ⟨rfl, by omega, by omega, by omega, by omega, by omega, by omega, by omega, by omega, by omega, by omega, by omega⟩
end
section
theorem fd_s {sa ea ml : Int → Int} {ev i z : Int} (hw : pw_ sa ea ml ev) (h0 : 0 ≤ i) (h1 : i < 600) (h : (z = -1 ∧ ∀ k : Int, 0 ≤ k → k < ev → ml k ≠ 2 * i) ∨ (0 ≤ z ∧ z < ev ∧ ml z = 2 * i ∧ ∀ k : Int, 0 ≤ k → k < z → ml k ≠ 2 * i)) : z = sa i := by
  obtain ⟨a1, a2, a3, a4⟩ := hw
  rcases h with ⟨e, h⟩ | ⟨b0, b1, b2, -⟩
  · rcases a2 i h0 h1 with t | ⟨t, t', t''⟩
    · omega
    · exact absurd t'' (h _ t t')
  · have c := (a4 z b0 b1).2.2.1 (by omega)
    rw [show ml z / 2 = i by omega] at c
    exact c.symm
theorem fd_e {sa ea ml : Int → Int} {ev i z : Int} (hw : pw_ sa ea ml ev) (h0 : 0 ≤ i) (h1 : i < 600) (hs : sa i ≠ -1) (h : (z = -1 ∧ ∀ k : Int, 0 ≤ k → k < ev → ml k ≠ 2 * i + 1) ∨ (0 ≤ z ∧ z < ev ∧ ml z = 2 * i + 1 ∧ ∀ k : Int, 0 ≤ k → k < z → ml k ≠ 2 * i + 1)) : z = ea i := by
  obtain ⟨a1, a2, a3, a4⟩ := hw
  rcases h with ⟨e, h⟩ | ⟨b0, b1, b2, -⟩
  · rcases a2 i h0 h1 with s | ⟨s, s', s''⟩
    · exact absurd s hs
    rcases a3 i h0 h1 hs with t | ⟨t, t', t''⟩
    · omega
    · exact absurd t'' (h _ (by omega) t')
  · have c := ((a4 z b0 b1).2.2.2 (by omega)).2
    rw [show ml z / 2 = i by omega] at c
    exact c.symm
def mt_ (mt sa : Int → Int) : Prop := ∀ j : Int, 0 ≤ j → j < 600 → (mt j = 1 ∧ sa j ≠ -1) ∨ (mt j = 0 ∧ sa j = -1)
theorem sg_go (g : Int → Int) {z : Int} (h : 0 ≤ z) : sg_ g (z + 1).toNat = sg_ g z.toNat + g z := by
  rw [show (z + 1).toNat = z.toNat + 1 by omega]
  show sg_ g z.toNat + g (z.toNat : Int) = _
  rw [Int.toNat_of_nonneg h]
theorem sg_rng {g : Int → Int} {c : Int} (hc : 0 ≤ c) (z : Int) (h0 : 0 ≤ z) (h1 : z ≤ 600) (H : ∀ j : Int, 0 ≤ j → j < 600 → 0 ≤ g j ∧ g j ≤ c) : 0 ≤ sg_ g z.toNat ∧ sg_ g z.toNat ≤ 600 * c := by
  have a := sg_nn (g := g) z.toNat (fun j x y => (H j x (by omega)).1)
  have b := sg_le (g := g) (c := c) z.toNat (fun j x y => (H j x (by omega)).2)
  have d : (z.toNat : Int) * c ≤ 600 * c := Int.mul_le_mul_of_nonneg_right (by omega) hc
  omega
/-- the fourth loop of the reference's erasure, at number i -/
def m4_ (g mt : Int → Int) (i : Int) (mt2 : Int → Int) : Prop := ∀ j : Int, 0 ≤ j → j < 600 → (j < i → g j = 1 → mt2 j = 0) ∧ (i ≤ j ∨ g j = 0 → mt2 j = mt j)
theorem m4_skip {g mt mt2 : Int → Int} {i : Int} (h : m4_ g mt i mt2) (hg : g i = 0) : m4_ g mt (i + 1) mt2 := fun j x y => by
  obtain ⟨a, b⟩ := h j x y
  by_cases hq : j = i
  · subst hq
    exact ⟨fun _ e => by omega, fun _ => b (Or.inl (by omega))⟩
  · exact ⟨fun p e => a (by omega) e, fun p => b (by omega)⟩
theorem m4_put {g mt mt2 : Int → Int} {i : Int} (h : m4_ g mt i mt2) (hg : g i = 1) : m4_ g mt (i + 1) (up_ mt2 i 0) := fun j x y => by
  obtain ⟨a, b⟩ := h j x y
  by_cases hq : j = i
  · subst hq
    rw [up_s]
    exact ⟨fun _ _ => rfl, fun p => by omega⟩
  · rw [up_n hq]
    exact ⟨fun p e => a (by omega) e, fun p => b (by omega)⟩
/-- where starts and ends are behind an erasure -/
noncomputable def es_ (sa ln : Int → Int) (a b : Int) : Int → Int := fun j => @ite Int (sa j = -1 ∨ fg_ ln a b j) (Classical.propDecidable _) (-1) (rz_ (gp_ ln a b) (sa j))
noncomputable def ee_ (ea ln : Int → Int) (a b : Int) : Int → Int := fun j => if ea j = -1 then -1 else rz_ (gp_ ln a b) (ea j)
theorem es_er {sa ea ml ml2 : Int → Int} {ev a b : Int} (h : ∀ k : Int, 0 ≤ k → k < ev → ¬ gp_ ml a b k → ml2 (rz_ (gp_ ml a b) k) = ml k) : er_ sa ea ml ev a b (es_ sa ml a b) (ee_ ea ml a b) ml2 := by
  refine ⟨h, fun j x y => ⟨fun q => ?_, fun n q => ⟨?_, fun e => ?_, fun e => ?_⟩⟩⟩
  · show @ite Int _ (Classical.propDecidable _) _ _ = _
    rw [if_pos q]
  · show @ite Int _ (Classical.propDecidable _) _ _ = _
    rw [if_neg (fun z => z.elim n q)]
  · show (if ea j = -1 then -1 else _) = _
    rw [if_pos e]
  · show (if ea j = -1 then -1 else _) = _
    rw [if_neg e]
/-- behind the marks' loop and the fourth: who is there, how many -/
theorem m4_end {sa ea ml mt mt2 g : Int → Int} {ev a b : Int} (hw : pw_ sa ea ml ev) (hb : b ≤ ev) (ha : 0 ≤ a) (hm : mt_ mt sa) (hg : mg_ ml a b g) (h : m4_ g mt 600 mt2) : mt_ mt2 (es_ sa ml a b) := fun j x y => by
  obtain ⟨p, q⟩ := h j x y
  obtain ⟨g1, g0⟩ := hg j x y
  by_cases hf : fg_ ml a b j
  · refine Or.inr ⟨p (by omega) (g1 hf), ?_⟩
    show @ite Int _ (Classical.propDecidable _) _ _ = _
    rw [if_pos (Or.inr hf)]
  · rw [q (Or.inr (g0 hf))]
    rcases hm j x y with ⟨r1, r2⟩ | ⟨r1, r2⟩
    · refine Or.inl ⟨r1, ?_⟩
      show @ite Int _ (Classical.propDecidable _) _ _ ≠ _
      rw [if_neg (fun z => z.elim r2 hf)]
      have w2 := hw.2.1 j x y
      have := rz_nn (gp_ ml a b) (show 0 ≤ sa j by omega)
      omega
    · refine Or.inr ⟨r1, ?_⟩
      show @ite Int _ (Classical.propDecidable _) _ _ = _
      rw [if_pos (Or.inl r2)]
end
section
abbrev SM_ : Type := (Int → Int) × (Int → Int) × (Int → Int) × (Int → Int) × (Int → Int) × (Int → Int) × (Int → Int) × (Int → Int) × (Int → Int) × (Int → Int) × Int × Int × Int × Int × Int × Int × Int
def fM_ (q : Nat → Nat) : SM_ → List Value := fun x => match x with
  | (mt, mq, mw, ms, ml, mf, mx, mo, mi, mg, th, mn, mh, ev, cu, fr, oo) => [.int (zi_ th), .ref (q 1), .ref (q 2), .ref (q 3), .ref (q 4), .int (zi_ mn), .int (zi_ mh), .ref (q 5), .int (zi_ ev), .int (zi_ cu), .int (zi_ fr), .ref (q 6), .ref (q 7), .int (zi_ oo), .ref (q 8), .ref (q 9), .ref (q 10)]
def aM_ (q : Nat → Nat) (cA : Nat → ClassId) : SM_ → va_W := fun x => match x with
  | (mt, mq, mw, ms, ml, mf, mx, mo, mi, mg, th, mn, mh, ev, cu, fr, oo) => [(q 1, .inl (cA 1, 600, .inl (zf_ mt))), (q 2, .inl (cA 2, 600, .inl (zf_ mq))), (q 3, .inl (cA 3, 600, .inl (zf_ mw))), (q 4, .inl (cA 4, 600, .inl (zf_ ms))), (q 5, .inl (cA 5, 1200, .inl (zf_ ml))), (q 6, .inl (cA 6, 64, .inl (zf_ mf))), (q 7, .inl (cA 7, 64, .inl (zf_ mx))), (q 8, .inl (cA 8, 600, .inl (zf_ mo))), (q 9, .inl (cA 9, 600, .inl (zf_ mi))), (q 10, .inl (cA 10, 600, .inl (zf_ mg)))]
def wM_ (q : Nat → Nat) (cA : Nat → ClassId) (x : SM_) : va_W := (q 0, .inr (1, fM_ q x)) :: aM_ q cA x
abbrev tM_ (cA : Nat → ClassId) : List (ClassId × FieldType) := [(cA 1, .boolean), (cA 2, .int), (cA 3, .int), (cA 4, .boolean), (cA 5, .int), (cA 6, .int), (cA 7, .boolean), (cA 8, .int), (cA 9, .int), (cA 10, .boolean)]
section MV
variable {p : Program} {l : Launch} {e : Env} {R : Room} {s : State} {m : MethodId} {args : Array Value} {below : List Frame} {meth : Method} {c : Code} {H : Heap} {locs : List Loc} {cells slots : Nat} {Q : State → Prop}
variable {cc : ByteArray} {pc index : Nat} {ls : Array Slot} {rest : List Value} {dC : Nat → ClassId} {dI : Nat → Nat → Nat} {A : Nat → Prop} {H0 : Heap} {q : Nat → Nat} {cA : Nat → ClassId} {x x' : SM_} {Ts : List Cond} {v : Value} {z : Int}
theorem gM_ (hE : ze_ p c cc) (hX : ∀ w ∈ wsM_, w.before args s = true) (hown : s.vm.findClass RX1 = some m.cls) (hK : va_K (dC, dI) vwCl (tM_ cA) s) (hh : hp_ (dC, dI) vwCl A H0 (wM_ q cA x) H locs) (k : Nat) (hk : k < 17) (hr : (TX1 k).1 = RX1) (hlink : Cond.fieldLink RX1 index RX1 (TX1 k).2.1 (TX1 k).2.2.1 ∈ wsM_) (hv : (fM_ q x)[k]? = some v) (hdg : decode cc pc = .ok (.getfield index, 3)) (kk : W p l e R s m args below meth c H locs cells slots Q (F0 m (pc + 3) ls (v :: rest))) : W p l e R s m args below meth c H locs cells slots Q (F0 m pc ls (.ref (q 0) :: rest)) := ob_get (C := RX1) (T := TX1) (N := 17) (ci := 1) hE hX inwM_ hown hK hh 0 rfl rfl k hk hr hlink hv hdg kk
theorem pM_ (hE : ze_ p c cc) (hX : ∀ w ∈ wsM_, w.before args s = true) (hown : s.vm.findClass RX1 = some m.cls) (hK : va_K (dC, dI) vwCl (tM_ cA) s) (hh : hp_ (dC, dI) vwCl A H0 (wM_ q cA x) H locs) (k : Nat) (hk : k < 17) (hr : (TX1 k).1 = RX1) (hlink : Cond.fieldLink RX1 index RX1 (TX1 k).2.1 (TX1 k).2.2.1 ∈ wsM_) (hfin : (TX1 k).2.2.2 = false) (hd : parseFieldDescriptor (TX1 k).2.2.1 = some .int) (hl : k < (fM_ q x).length) (hdg : decode cc pc = .ok (.putfield index, 3)) (hw : (wM_ q cA x).set 0 (q 0, .inr (1, (fM_ q x).set k (.int (zi_ z)))) = wM_ q cA x') (kk : ∀ (H : Heap) (locs : List Loc), hp_ (dC, dI) vwCl A H0 (wM_ q cA x') H locs → W p l e R s m args below meth c H locs cells slots Q (F0 m (pc + 3) ls rest)) : W p l e R s m args below meth c H locs cells slots Q (F0 m pc ls (.int (zi_ z) :: .ref (q 0) :: rest)) := ob_put (C := RX1) (T := TX1) (N := 17) (ci := 1) hE hX inwM_ tyX1_ok nmX1 hown hK hh 0 rfl rfl k hk hr hlink hfin hd hl hdg hw kk
theorem gM_thrown {mt mq mw ms ml mf mx mo mi mg : Int → Int} {th mn mh ev cu fr oo : Int} (hE : ze_ p c cc) (hX : ∀ w ∈ wsM_, w.before args s = true) (hown : s.vm.findClass RX1 = some m.cls) (hK : va_K (dC, dI) vwCl (tM_ cA) s) (hh : hp_ (dC, dI) vwCl A H0 (wM_ q cA (mt, mq, mw, ms, ml, mf, mx, mo, mi, mg, th, mn, mh, ev, cu, fr, oo)) H locs) (hdg : decode cc pc = .ok (.getfield 45, 3)) (kk : W p l e R s m args below meth c H locs cells slots Q (F0 m (pc + 3) ls (.int (zi_ th) :: rest))) : W p l e R s m args below meth c H locs cells slots Q (F0 m pc ls (.ref (q 0) :: rest)) := gM_ hE hX hown hK hh 0 (by decide) rfl mM_fl_45 rfl hdg kk
theorem pM_thrown {mt mq mw ms ml mf mx mo mi mg : Int → Int} {th mn mh ev cu fr oo : Int} (hE : ze_ p c cc) (hX : ∀ w ∈ wsM_, w.before args s = true) (hown : s.vm.findClass RX1 = some m.cls) (hK : va_K (dC, dI) vwCl (tM_ cA) s) (hh : hp_ (dC, dI) vwCl A H0 (wM_ q cA (mt, mq, mw, ms, ml, mf, mx, mo, mi, mg, th, mn, mh, ev, cu, fr, oo)) H locs) (hdg : decode cc pc = .ok (.putfield 45, 3)) (kk : ∀ (H : Heap) (locs : List Loc), hp_ (dC, dI) vwCl A H0 (wM_ q cA (mt, mq, mw, ms, ml, mf, mx, mo, mi, mg, z, mn, mh, ev, cu, fr, oo)) H locs → W p l e R s m args below meth c H locs cells slots Q (F0 m (pc + 3) ls rest)) : W p l e R s m args below meth c H locs cells slots Q (F0 m pc ls (.int (zi_ z) :: .ref (q 0) :: rest)) := pM_ (x' := (mt, mq, mw, ms, ml, mf, mx, mo, mi, mg, z, mn, mh, ev, cu, fr, oo)) hE hX hown hK hh 0 (by decide) rfl mM_fl_45 rfl (by decide +kernel) (Nat.le_of_ble_eq_true rfl) hdg rfl kk
theorem gM_there {mt mq mw ms ml mf mx mo mi mg : Int → Int} {th mn mh ev cu fr oo : Int} (hE : ze_ p c cc) (hX : ∀ w ∈ wsM_, w.before args s = true) (hown : s.vm.findClass RX1 = some m.cls) (hK : va_K (dC, dI) vwCl (tM_ cA) s) (hh : hp_ (dC, dI) vwCl A H0 (wM_ q cA (mt, mq, mw, ms, ml, mf, mx, mo, mi, mg, th, mn, mh, ev, cu, fr, oo)) H locs) (hdg : decode cc pc = .ok (.getfield 7, 3)) (kk : W p l e R s m args below meth c H locs cells slots Q (F0 m (pc + 3) ls (.ref (q 1) :: rest))) : W p l e R s m args below meth c H locs cells slots Q (F0 m pc ls (.ref (q 0) :: rest)) := gM_ hE hX hown hK hh 1 (by decide) rfl mM_fl_7 rfl hdg kk
theorem rM_there {mt mq mw ms ml mf mx mo mi mg : Int → Int} {th mn mh ev cu fr oo : Int} (hE : ze_ p c cc) (hK : va_K (dC, dI) vwCl (tM_ cA) s) (hh : hp_ (dC, dI) vwCl A H0 (wM_ q cA (mt, mq, mw, ms, ml, mf, mx, mo, mi, mg, th, mn, mh, ev, cu, fr, oo)) H locs) (hz : 0 ≤ z ∧ z < 600) (hdg : decode cc pc = .ok (.baload, 1)) (kk : W p l e R s m args below meth c H locs cells slots Q (F0 m (pc + 1) ls (.int (zi_ (mt z)) :: rest))) : W p l e R s m args below meth c H locs cells slots Q (F0 m pc ls (.int (zi_ z) :: .ref (q 1) :: rest)) := zv_zald hE hK hh 1 0 rfl rfl (by decide) hz hdg kk
theorem sM_there {mt mq mw ms ml mf mx mo mi mg : Int → Int} {th mn mh ev cu fr oo : Int} {y : Int} (hE : ze_ p c cc) (hK : va_K (dC, dI) vwCl (tM_ cA) s) (hh : hp_ (dC, dI) vwCl A H0 (wM_ q cA (mt, mq, mw, ms, ml, mf, mx, mo, mi, mg, th, mn, mh, ev, cu, fr, oo)) H locs) (hz : 0 ≤ z ∧ z < 600) (hy : zb_ y) (hdg : decode cc pc = .ok (.bastore, 1)) (kk : ∀ (H : Heap) (locs : List Loc), hp_ (dC, dI) vwCl A H0 (wM_ q cA (up_ mt z y, mq, mw, ms, ml, mf, mx, mo, mi, mg, th, mn, mh, ev, cu, fr, oo)) H locs → W p l e R s m args below meth c H locs cells slots Q (F0 m (pc + 1) ls rest)) : W p l e R s m args below meth c H locs cells slots Q (F0 m pc ls (.int (zi_ y) :: .int (zi_ z) :: .ref (q 1) :: rest)) := zv_zast (ws' := wM_ q cA (up_ mt z y, mq, mw, ms, ml, mf, mx, mo, mi, mg, th, mn, mh, ev, cu, fr, oo)) hE hK hh 1 0 rfl rfl (by decide) hz hy hdg rfl kk
theorem gM_keys {mt mq mw ms ml mf mx mo mi mg : Int → Int} {th mn mh ev cu fr oo : Int} (hE : ze_ p c cc) (hX : ∀ w ∈ wsM_, w.before args s = true) (hown : s.vm.findClass RX1 = some m.cls) (hK : va_K (dC, dI) vwCl (tM_ cA) s) (hh : hp_ (dC, dI) vwCl A H0 (wM_ q cA (mt, mq, mw, ms, ml, mf, mx, mo, mi, mg, th, mn, mh, ev, cu, fr, oo)) H locs) (hdg : decode cc pc = .ok (.getfield 13, 3)) (kk : W p l e R s m args below meth c H locs cells slots Q (F0 m (pc + 3) ls (.ref (q 2) :: rest))) : W p l e R s m args below meth c H locs cells slots Q (F0 m pc ls (.ref (q 0) :: rest)) := gM_ hE hX hown hK hh 2 (by decide) rfl mM_fl_13 rfl hdg kk
theorem rM_keys {mt mq mw ms ml mf mx mo mi mg : Int → Int} {th mn mh ev cu fr oo : Int} (hE : ze_ p c cc) (hK : va_K (dC, dI) vwCl (tM_ cA) s) (hh : hp_ (dC, dI) vwCl A H0 (wM_ q cA (mt, mq, mw, ms, ml, mf, mx, mo, mi, mg, th, mn, mh, ev, cu, fr, oo)) H locs) (hz : 0 ≤ z ∧ z < 600) (hdg : decode cc pc = .ok (.iaload, 1)) (kk : W p l e R s m args below meth c H locs cells slots Q (F0 m (pc + 1) ls (.int (zi_ (mq z)) :: rest))) : W p l e R s m args below meth c H locs cells slots Q (F0 m pc ls (.int (zi_ z) :: .ref (q 2) :: rest)) := zv_iald hE hK hh 2 1 rfl rfl (by decide) hz hdg kk
theorem sM_keys {mt mq mw ms ml mf mx mo mi mg : Int → Int} {th mn mh ev cu fr oo : Int} {y : Int} (hE : ze_ p c cc) (hK : va_K (dC, dI) vwCl (tM_ cA) s) (hh : hp_ (dC, dI) vwCl A H0 (wM_ q cA (mt, mq, mw, ms, ml, mf, mx, mo, mi, mg, th, mn, mh, ev, cu, fr, oo)) H locs) (hz : 0 ≤ z ∧ z < 600) (hdg : decode cc pc = .ok (.iastore, 1)) (kk : ∀ (H : Heap) (locs : List Loc), hp_ (dC, dI) vwCl A H0 (wM_ q cA (mt, up_ mq z y, mw, ms, ml, mf, mx, mo, mi, mg, th, mn, mh, ev, cu, fr, oo)) H locs → W p l e R s m args below meth c H locs cells slots Q (F0 m (pc + 1) ls rest)) : W p l e R s m args below meth c H locs cells slots Q (F0 m pc ls (.int (zi_ y) :: .int (zi_ z) :: .ref (q 2) :: rest)) := zv_iast (ws' := wM_ q cA (mt, up_ mq z y, mw, ms, ml, mf, mx, mo, mi, mg, th, mn, mh, ev, cu, fr, oo)) hE hK hh 2 1 rfl rfl (by decide) hz hdg rfl kk
theorem gM_weights {mt mq mw ms ml mf mx mo mi mg : Int → Int} {th mn mh ev cu fr oo : Int} (hE : ze_ p c cc) (hX : ∀ w ∈ wsM_, w.before args s = true) (hown : s.vm.findClass RX1 = some m.cls) (hK : va_K (dC, dI) vwCl (tM_ cA) s) (hh : hp_ (dC, dI) vwCl A H0 (wM_ q cA (mt, mq, mw, ms, ml, mf, mx, mo, mi, mg, th, mn, mh, ev, cu, fr, oo)) H locs) (hdg : decode cc pc = .ok (.getfield 17, 3)) (kk : W p l e R s m args below meth c H locs cells slots Q (F0 m (pc + 3) ls (.ref (q 3) :: rest))) : W p l e R s m args below meth c H locs cells slots Q (F0 m pc ls (.ref (q 0) :: rest)) := gM_ hE hX hown hK hh 3 (by decide) rfl mM_fl_17 rfl hdg kk
theorem rM_weights {mt mq mw ms ml mf mx mo mi mg : Int → Int} {th mn mh ev cu fr oo : Int} (hE : ze_ p c cc) (hK : va_K (dC, dI) vwCl (tM_ cA) s) (hh : hp_ (dC, dI) vwCl A H0 (wM_ q cA (mt, mq, mw, ms, ml, mf, mx, mo, mi, mg, th, mn, mh, ev, cu, fr, oo)) H locs) (hz : 0 ≤ z ∧ z < 600) (hdg : decode cc pc = .ok (.iaload, 1)) (kk : W p l e R s m args below meth c H locs cells slots Q (F0 m (pc + 1) ls (.int (zi_ (mw z)) :: rest))) : W p l e R s m args below meth c H locs cells slots Q (F0 m pc ls (.int (zi_ z) :: .ref (q 3) :: rest)) := zv_iald hE hK hh 3 2 rfl rfl (by decide) hz hdg kk
theorem sM_weights {mt mq mw ms ml mf mx mo mi mg : Int → Int} {th mn mh ev cu fr oo : Int} {y : Int} (hE : ze_ p c cc) (hK : va_K (dC, dI) vwCl (tM_ cA) s) (hh : hp_ (dC, dI) vwCl A H0 (wM_ q cA (mt, mq, mw, ms, ml, mf, mx, mo, mi, mg, th, mn, mh, ev, cu, fr, oo)) H locs) (hz : 0 ≤ z ∧ z < 600) (hdg : decode cc pc = .ok (.iastore, 1)) (kk : ∀ (H : Heap) (locs : List Loc), hp_ (dC, dI) vwCl A H0 (wM_ q cA (mt, mq, up_ mw z y, ms, ml, mf, mx, mo, mi, mg, th, mn, mh, ev, cu, fr, oo)) H locs → W p l e R s m args below meth c H locs cells slots Q (F0 m (pc + 1) ls rest)) : W p l e R s m args below meth c H locs cells slots Q (F0 m pc ls (.int (zi_ y) :: .int (zi_ z) :: .ref (q 3) :: rest)) := zv_iast (ws' := wM_ q cA (mt, mq, up_ mw z y, ms, ml, mf, mx, mo, mi, mg, th, mn, mh, ev, cu, fr, oo)) hE hK hh 3 2 rfl rfl (by decide) hz hdg rfl kk
theorem gM_isStale {mt mq mw ms ml mf mx mo mi mg : Int → Int} {th mn mh ev cu fr oo : Int} (hE : ze_ p c cc) (hX : ∀ w ∈ wsM_, w.before args s = true) (hown : s.vm.findClass RX1 = some m.cls) (hK : va_K (dC, dI) vwCl (tM_ cA) s) (hh : hp_ (dC, dI) vwCl A H0 (wM_ q cA (mt, mq, mw, ms, ml, mf, mx, mo, mi, mg, th, mn, mh, ev, cu, fr, oo)) H locs) (hdg : decode cc pc = .ok (.getfield 20, 3)) (kk : W p l e R s m args below meth c H locs cells slots Q (F0 m (pc + 3) ls (.ref (q 4) :: rest))) : W p l e R s m args below meth c H locs cells slots Q (F0 m pc ls (.ref (q 0) :: rest)) := gM_ hE hX hown hK hh 4 (by decide) rfl mM_fl_20 rfl hdg kk
theorem rM_isStale {mt mq mw ms ml mf mx mo mi mg : Int → Int} {th mn mh ev cu fr oo : Int} (hE : ze_ p c cc) (hK : va_K (dC, dI) vwCl (tM_ cA) s) (hh : hp_ (dC, dI) vwCl A H0 (wM_ q cA (mt, mq, mw, ms, ml, mf, mx, mo, mi, mg, th, mn, mh, ev, cu, fr, oo)) H locs) (hz : 0 ≤ z ∧ z < 600) (hdg : decode cc pc = .ok (.baload, 1)) (kk : W p l e R s m args below meth c H locs cells slots Q (F0 m (pc + 1) ls (.int (zi_ (ms z)) :: rest))) : W p l e R s m args below meth c H locs cells slots Q (F0 m pc ls (.int (zi_ z) :: .ref (q 4) :: rest)) := zv_zald hE hK hh 4 3 rfl rfl (by decide) hz hdg kk
theorem sM_isStale {mt mq mw ms ml mf mx mo mi mg : Int → Int} {th mn mh ev cu fr oo : Int} {y : Int} (hE : ze_ p c cc) (hK : va_K (dC, dI) vwCl (tM_ cA) s) (hh : hp_ (dC, dI) vwCl A H0 (wM_ q cA (mt, mq, mw, ms, ml, mf, mx, mo, mi, mg, th, mn, mh, ev, cu, fr, oo)) H locs) (hz : 0 ≤ z ∧ z < 600) (hy : zb_ y) (hdg : decode cc pc = .ok (.bastore, 1)) (kk : ∀ (H : Heap) (locs : List Loc), hp_ (dC, dI) vwCl A H0 (wM_ q cA (mt, mq, mw, up_ ms z y, ml, mf, mx, mo, mi, mg, th, mn, mh, ev, cu, fr, oo)) H locs → W p l e R s m args below meth c H locs cells slots Q (F0 m (pc + 1) ls rest)) : W p l e R s m args below meth c H locs cells slots Q (F0 m pc ls (.int (zi_ y) :: .int (zi_ z) :: .ref (q 4) :: rest)) := zv_zast (ws' := wM_ q cA (mt, mq, mw, up_ ms z y, ml, mf, mx, mo, mi, mg, th, mn, mh, ev, cu, fr, oo)) hE hK hh 4 3 rfl rfl (by decide) hz hy hdg rfl kk
theorem gM_many {mt mq mw ms ml mf mx mo mi mg : Int → Int} {th mn mh ev cu fr oo : Int} (hE : ze_ p c cc) (hX : ∀ w ∈ wsM_, w.before args s = true) (hown : s.vm.findClass RX1 = some m.cls) (hK : va_K (dC, dI) vwCl (tM_ cA) s) (hh : hp_ (dC, dI) vwCl A H0 (wM_ q cA (mt, mq, mw, ms, ml, mf, mx, mo, mi, mg, th, mn, mh, ev, cu, fr, oo)) H locs) (hdg : decode cc pc = .ok (.getfield 68, 3)) (kk : W p l e R s m args below meth c H locs cells slots Q (F0 m (pc + 3) ls (.int (zi_ mn) :: rest))) : W p l e R s m args below meth c H locs cells slots Q (F0 m pc ls (.ref (q 0) :: rest)) := gM_ hE hX hown hK hh 5 (by decide) rfl mM_fl_68 rfl hdg kk
theorem pM_many {mt mq mw ms ml mf mx mo mi mg : Int → Int} {th mn mh ev cu fr oo : Int} (hE : ze_ p c cc) (hX : ∀ w ∈ wsM_, w.before args s = true) (hown : s.vm.findClass RX1 = some m.cls) (hK : va_K (dC, dI) vwCl (tM_ cA) s) (hh : hp_ (dC, dI) vwCl A H0 (wM_ q cA (mt, mq, mw, ms, ml, mf, mx, mo, mi, mg, th, mn, mh, ev, cu, fr, oo)) H locs) (hdg : decode cc pc = .ok (.putfield 68, 3)) (kk : ∀ (H : Heap) (locs : List Loc), hp_ (dC, dI) vwCl A H0 (wM_ q cA (mt, mq, mw, ms, ml, mf, mx, mo, mi, mg, th, z, mh, ev, cu, fr, oo)) H locs → W p l e R s m args below meth c H locs cells slots Q (F0 m (pc + 3) ls rest)) : W p l e R s m args below meth c H locs cells slots Q (F0 m pc ls (.int (zi_ z) :: .ref (q 0) :: rest)) := pM_ (x' := (mt, mq, mw, ms, ml, mf, mx, mo, mi, mg, th, z, mh, ev, cu, fr, oo)) hE hX hown hK hh 5 (by decide) rfl mM_fl_68 rfl (by decide +kernel) (Nat.le_of_ble_eq_true rfl) hdg rfl kk
theorem gM_whole {mt mq mw ms ml mf mx mo mi mg : Int → Int} {th mn mh ev cu fr oo : Int} (hE : ze_ p c cc) (hX : ∀ w ∈ wsM_, w.before args s = true) (hown : s.vm.findClass RX1 = some m.cls) (hK : va_K (dC, dI) vwCl (tM_ cA) s) (hh : hp_ (dC, dI) vwCl A H0 (wM_ q cA (mt, mq, mw, ms, ml, mf, mx, mo, mi, mg, th, mn, mh, ev, cu, fr, oo)) H locs) (hdg : decode cc pc = .ok (.getfield 79, 3)) (kk : W p l e R s m args below meth c H locs cells slots Q (F0 m (pc + 3) ls (.int (zi_ mh) :: rest))) : W p l e R s m args below meth c H locs cells slots Q (F0 m pc ls (.ref (q 0) :: rest)) := gM_ hE hX hown hK hh 6 (by decide) rfl mM_fl_79 rfl hdg kk
theorem pM_whole {mt mq mw ms ml mf mx mo mi mg : Int → Int} {th mn mh ev cu fr oo : Int} (hE : ze_ p c cc) (hX : ∀ w ∈ wsM_, w.before args s = true) (hown : s.vm.findClass RX1 = some m.cls) (hK : va_K (dC, dI) vwCl (tM_ cA) s) (hh : hp_ (dC, dI) vwCl A H0 (wM_ q cA (mt, mq, mw, ms, ml, mf, mx, mo, mi, mg, th, mn, mh, ev, cu, fr, oo)) H locs) (hdg : decode cc pc = .ok (.putfield 79, 3)) (kk : ∀ (H : Heap) (locs : List Loc), hp_ (dC, dI) vwCl A H0 (wM_ q cA (mt, mq, mw, ms, ml, mf, mx, mo, mi, mg, th, mn, z, ev, cu, fr, oo)) H locs → W p l e R s m args below meth c H locs cells slots Q (F0 m (pc + 3) ls rest)) : W p l e R s m args below meth c H locs cells slots Q (F0 m pc ls (.int (zi_ z) :: .ref (q 0) :: rest)) := pM_ (x' := (mt, mq, mw, ms, ml, mf, mx, mo, mi, mg, th, mn, z, ev, cu, fr, oo)) hE hX hown hK hh 6 (by decide) rfl mM_fl_79 rfl (by decide +kernel) (Nat.le_of_ble_eq_true rfl) hdg rfl kk
theorem gM_line {mt mq mw ms ml mf mx mo mi mg : Int → Int} {th mn mh ev cu fr oo : Int} (hE : ze_ p c cc) (hX : ∀ w ∈ wsM_, w.before args s = true) (hown : s.vm.findClass RX1 = some m.cls) (hK : va_K (dC, dI) vwCl (tM_ cA) s) (hh : hp_ (dC, dI) vwCl A H0 (wM_ q cA (mt, mq, mw, ms, ml, mf, mx, mo, mi, mg, th, mn, mh, ev, cu, fr, oo)) H locs) (hdg : decode cc pc = .ok (.getfield 23, 3)) (kk : W p l e R s m args below meth c H locs cells slots Q (F0 m (pc + 3) ls (.ref (q 5) :: rest))) : W p l e R s m args below meth c H locs cells slots Q (F0 m pc ls (.ref (q 0) :: rest)) := gM_ hE hX hown hK hh 7 (by decide) rfl mM_fl_23 rfl hdg kk
theorem rM_line {mt mq mw ms ml mf mx mo mi mg : Int → Int} {th mn mh ev cu fr oo : Int} (hE : ze_ p c cc) (hK : va_K (dC, dI) vwCl (tM_ cA) s) (hh : hp_ (dC, dI) vwCl A H0 (wM_ q cA (mt, mq, mw, ms, ml, mf, mx, mo, mi, mg, th, mn, mh, ev, cu, fr, oo)) H locs) (hz : 0 ≤ z ∧ z < 1200) (hdg : decode cc pc = .ok (.iaload, 1)) (kk : W p l e R s m args below meth c H locs cells slots Q (F0 m (pc + 1) ls (.int (zi_ (ml z)) :: rest))) : W p l e R s m args below meth c H locs cells slots Q (F0 m pc ls (.int (zi_ z) :: .ref (q 5) :: rest)) := zv_iald hE hK hh 5 4 rfl rfl (by decide) hz hdg kk
theorem sM_line {mt mq mw ms ml mf mx mo mi mg : Int → Int} {th mn mh ev cu fr oo : Int} {y : Int} (hE : ze_ p c cc) (hK : va_K (dC, dI) vwCl (tM_ cA) s) (hh : hp_ (dC, dI) vwCl A H0 (wM_ q cA (mt, mq, mw, ms, ml, mf, mx, mo, mi, mg, th, mn, mh, ev, cu, fr, oo)) H locs) (hz : 0 ≤ z ∧ z < 1200) (hdg : decode cc pc = .ok (.iastore, 1)) (kk : ∀ (H : Heap) (locs : List Loc), hp_ (dC, dI) vwCl A H0 (wM_ q cA (mt, mq, mw, ms, up_ ml z y, mf, mx, mo, mi, mg, th, mn, mh, ev, cu, fr, oo)) H locs → W p l e R s m args below meth c H locs cells slots Q (F0 m (pc + 1) ls rest)) : W p l e R s m args below meth c H locs cells slots Q (F0 m pc ls (.int (zi_ y) :: .int (zi_ z) :: .ref (q 5) :: rest)) := zv_iast (ws' := wM_ q cA (mt, mq, mw, ms, up_ ml z y, mf, mx, mo, mi, mg, th, mn, mh, ev, cu, fr, oo)) hE hK hh 5 4 rfl rfl (by decide) hz hdg rfl kk
theorem gM_events {mt mq mw ms ml mf mx mo mi mg : Int → Int} {th mn mh ev cu fr oo : Int} (hE : ze_ p c cc) (hX : ∀ w ∈ wsM_, w.before args s = true) (hown : s.vm.findClass RX1 = some m.cls) (hK : va_K (dC, dI) vwCl (tM_ cA) s) (hh : hp_ (dC, dI) vwCl A H0 (wM_ q cA (mt, mq, mw, ms, ml, mf, mx, mo, mi, mg, th, mn, mh, ev, cu, fr, oo)) H locs) (hdg : decode cc pc = .ok (.getfield 48, 3)) (kk : W p l e R s m args below meth c H locs cells slots Q (F0 m (pc + 3) ls (.int (zi_ ev) :: rest))) : W p l e R s m args below meth c H locs cells slots Q (F0 m pc ls (.ref (q 0) :: rest)) := gM_ hE hX hown hK hh 8 (by decide) rfl mM_fl_48 rfl hdg kk
theorem pM_events {mt mq mw ms ml mf mx mo mi mg : Int → Int} {th mn mh ev cu fr oo : Int} (hE : ze_ p c cc) (hX : ∀ w ∈ wsM_, w.before args s = true) (hown : s.vm.findClass RX1 = some m.cls) (hK : va_K (dC, dI) vwCl (tM_ cA) s) (hh : hp_ (dC, dI) vwCl A H0 (wM_ q cA (mt, mq, mw, ms, ml, mf, mx, mo, mi, mg, th, mn, mh, ev, cu, fr, oo)) H locs) (hdg : decode cc pc = .ok (.putfield 48, 3)) (kk : ∀ (H : Heap) (locs : List Loc), hp_ (dC, dI) vwCl A H0 (wM_ q cA (mt, mq, mw, ms, ml, mf, mx, mo, mi, mg, th, mn, mh, z, cu, fr, oo)) H locs → W p l e R s m args below meth c H locs cells slots Q (F0 m (pc + 3) ls rest)) : W p l e R s m args below meth c H locs cells slots Q (F0 m pc ls (.int (zi_ z) :: .ref (q 0) :: rest)) := pM_ (x' := (mt, mq, mw, ms, ml, mf, mx, mo, mi, mg, th, mn, mh, z, cu, fr, oo)) hE hX hown hK hh 8 (by decide) rfl mM_fl_48 rfl (by decide +kernel) (Nat.le_of_ble_eq_true rfl) hdg rfl kk
theorem gM_cursor {mt mq mw ms ml mf mx mo mi mg : Int → Int} {th mn mh ev cu fr oo : Int} (hE : ze_ p c cc) (hX : ∀ w ∈ wsM_, w.before args s = true) (hown : s.vm.findClass RX1 = some m.cls) (hK : va_K (dC, dI) vwCl (tM_ cA) s) (hh : hp_ (dC, dI) vwCl A H0 (wM_ q cA (mt, mq, mw, ms, ml, mf, mx, mo, mi, mg, th, mn, mh, ev, cu, fr, oo)) H locs) (hdg : decode cc pc = .ok (.getfield 51, 3)) (kk : W p l e R s m args below meth c H locs cells slots Q (F0 m (pc + 3) ls (.int (zi_ cu) :: rest))) : W p l e R s m args below meth c H locs cells slots Q (F0 m pc ls (.ref (q 0) :: rest)) := gM_ hE hX hown hK hh 9 (by decide) rfl mM_fl_51 rfl hdg kk
theorem pM_cursor {mt mq mw ms ml mf mx mo mi mg : Int → Int} {th mn mh ev cu fr oo : Int} (hE : ze_ p c cc) (hX : ∀ w ∈ wsM_, w.before args s = true) (hown : s.vm.findClass RX1 = some m.cls) (hK : va_K (dC, dI) vwCl (tM_ cA) s) (hh : hp_ (dC, dI) vwCl A H0 (wM_ q cA (mt, mq, mw, ms, ml, mf, mx, mo, mi, mg, th, mn, mh, ev, cu, fr, oo)) H locs) (hdg : decode cc pc = .ok (.putfield 51, 3)) (kk : ∀ (H : Heap) (locs : List Loc), hp_ (dC, dI) vwCl A H0 (wM_ q cA (mt, mq, mw, ms, ml, mf, mx, mo, mi, mg, th, mn, mh, ev, z, fr, oo)) H locs → W p l e R s m args below meth c H locs cells slots Q (F0 m (pc + 3) ls rest)) : W p l e R s m args below meth c H locs cells slots Q (F0 m pc ls (.int (zi_ z) :: .ref (q 0) :: rest)) := pM_ (x' := (mt, mq, mw, ms, ml, mf, mx, mo, mi, mg, th, mn, mh, ev, z, fr, oo)) hE hX hown hK hh 9 (by decide) rfl mM_fl_51 rfl (by decide +kernel) (Nat.le_of_ble_eq_true rfl) hdg rfl kk
theorem gM_frames {mt mq mw ms ml mf mx mo mi mg : Int → Int} {th mn mh ev cu fr oo : Int} (hE : ze_ p c cc) (hX : ∀ w ∈ wsM_, w.before args s = true) (hown : s.vm.findClass RX1 = some m.cls) (hK : va_K (dC, dI) vwCl (tM_ cA) s) (hh : hp_ (dC, dI) vwCl A H0 (wM_ q cA (mt, mq, mw, ms, ml, mf, mx, mo, mi, mg, th, mn, mh, ev, cu, fr, oo)) H locs) (hdg : decode cc pc = .ok (.getfield 26, 3)) (kk : W p l e R s m args below meth c H locs cells slots Q (F0 m (pc + 3) ls (.int (zi_ fr) :: rest))) : W p l e R s m args below meth c H locs cells slots Q (F0 m pc ls (.ref (q 0) :: rest)) := gM_ hE hX hown hK hh 10 (by decide) rfl mM_fl_26 rfl hdg kk
theorem pM_frames {mt mq mw ms ml mf mx mo mi mg : Int → Int} {th mn mh ev cu fr oo : Int} (hE : ze_ p c cc) (hX : ∀ w ∈ wsM_, w.before args s = true) (hown : s.vm.findClass RX1 = some m.cls) (hK : va_K (dC, dI) vwCl (tM_ cA) s) (hh : hp_ (dC, dI) vwCl A H0 (wM_ q cA (mt, mq, mw, ms, ml, mf, mx, mo, mi, mg, th, mn, mh, ev, cu, fr, oo)) H locs) (hdg : decode cc pc = .ok (.putfield 26, 3)) (kk : ∀ (H : Heap) (locs : List Loc), hp_ (dC, dI) vwCl A H0 (wM_ q cA (mt, mq, mw, ms, ml, mf, mx, mo, mi, mg, th, mn, mh, ev, cu, z, oo)) H locs → W p l e R s m args below meth c H locs cells slots Q (F0 m (pc + 3) ls rest)) : W p l e R s m args below meth c H locs cells slots Q (F0 m pc ls (.int (zi_ z) :: .ref (q 0) :: rest)) := pM_ (x' := (mt, mq, mw, ms, ml, mf, mx, mo, mi, mg, th, mn, mh, ev, cu, z, oo)) hE hX hown hK hh 10 (by decide) rfl mM_fl_26 rfl (by decide +kernel) (Nat.le_of_ble_eq_true rfl) hdg rfl kk
theorem gM_frameOf {mt mq mw ms ml mf mx mo mi mg : Int → Int} {th mn mh ev cu fr oo : Int} (hE : ze_ p c cc) (hX : ∀ w ∈ wsM_, w.before args s = true) (hown : s.vm.findClass RX1 = some m.cls) (hK : va_K (dC, dI) vwCl (tM_ cA) s) (hh : hp_ (dC, dI) vwCl A H0 (wM_ q cA (mt, mq, mw, ms, ml, mf, mx, mo, mi, mg, th, mn, mh, ev, cu, fr, oo)) H locs) (hdg : decode cc pc = .ok (.getfield 30, 3)) (kk : W p l e R s m args below meth c H locs cells slots Q (F0 m (pc + 3) ls (.ref (q 6) :: rest))) : W p l e R s m args below meth c H locs cells slots Q (F0 m pc ls (.ref (q 0) :: rest)) := gM_ hE hX hown hK hh 11 (by decide) rfl mM_fl_30 rfl hdg kk
theorem rM_frameOf {mt mq mw ms ml mf mx mo mi mg : Int → Int} {th mn mh ev cu fr oo : Int} (hE : ze_ p c cc) (hK : va_K (dC, dI) vwCl (tM_ cA) s) (hh : hp_ (dC, dI) vwCl A H0 (wM_ q cA (mt, mq, mw, ms, ml, mf, mx, mo, mi, mg, th, mn, mh, ev, cu, fr, oo)) H locs) (hz : 0 ≤ z ∧ z < 64) (hdg : decode cc pc = .ok (.iaload, 1)) (kk : W p l e R s m args below meth c H locs cells slots Q (F0 m (pc + 1) ls (.int (zi_ (mf z)) :: rest))) : W p l e R s m args below meth c H locs cells slots Q (F0 m pc ls (.int (zi_ z) :: .ref (q 6) :: rest)) := zv_iald hE hK hh 6 5 rfl rfl (by decide) hz hdg kk
theorem sM_frameOf {mt mq mw ms ml mf mx mo mi mg : Int → Int} {th mn mh ev cu fr oo : Int} {y : Int} (hE : ze_ p c cc) (hK : va_K (dC, dI) vwCl (tM_ cA) s) (hh : hp_ (dC, dI) vwCl A H0 (wM_ q cA (mt, mq, mw, ms, ml, mf, mx, mo, mi, mg, th, mn, mh, ev, cu, fr, oo)) H locs) (hz : 0 ≤ z ∧ z < 64) (hdg : decode cc pc = .ok (.iastore, 1)) (kk : ∀ (H : Heap) (locs : List Loc), hp_ (dC, dI) vwCl A H0 (wM_ q cA (mt, mq, mw, ms, ml, up_ mf z y, mx, mo, mi, mg, th, mn, mh, ev, cu, fr, oo)) H locs → W p l e R s m args below meth c H locs cells slots Q (F0 m (pc + 1) ls rest)) : W p l e R s m args below meth c H locs cells slots Q (F0 m pc ls (.int (zi_ y) :: .int (zi_ z) :: .ref (q 6) :: rest)) := zv_iast (ws' := wM_ q cA (mt, mq, mw, ms, ml, up_ mf z y, mx, mo, mi, mg, th, mn, mh, ev, cu, fr, oo)) hE hK hh 6 5 rfl rfl (by decide) hz hdg rfl kk
theorem gM_taken {mt mq mw ms ml mf mx mo mi mg : Int → Int} {th mn mh ev cu fr oo : Int} (hE : ze_ p c cc) (hX : ∀ w ∈ wsM_, w.before args s = true) (hown : s.vm.findClass RX1 = some m.cls) (hK : va_K (dC, dI) vwCl (tM_ cA) s) (hh : hp_ (dC, dI) vwCl A H0 (wM_ q cA (mt, mq, mw, ms, ml, mf, mx, mo, mi, mg, th, mn, mh, ev, cu, fr, oo)) H locs) (hdg : decode cc pc = .ok (.getfield 33, 3)) (kk : W p l e R s m args below meth c H locs cells slots Q (F0 m (pc + 3) ls (.ref (q 7) :: rest))) : W p l e R s m args below meth c H locs cells slots Q (F0 m pc ls (.ref (q 0) :: rest)) := gM_ hE hX hown hK hh 12 (by decide) rfl mM_fl_33 rfl hdg kk
theorem rM_taken {mt mq mw ms ml mf mx mo mi mg : Int → Int} {th mn mh ev cu fr oo : Int} (hE : ze_ p c cc) (hK : va_K (dC, dI) vwCl (tM_ cA) s) (hh : hp_ (dC, dI) vwCl A H0 (wM_ q cA (mt, mq, mw, ms, ml, mf, mx, mo, mi, mg, th, mn, mh, ev, cu, fr, oo)) H locs) (hz : 0 ≤ z ∧ z < 64) (hdg : decode cc pc = .ok (.baload, 1)) (kk : W p l e R s m args below meth c H locs cells slots Q (F0 m (pc + 1) ls (.int (zi_ (mx z)) :: rest))) : W p l e R s m args below meth c H locs cells slots Q (F0 m pc ls (.int (zi_ z) :: .ref (q 7) :: rest)) := zv_zald hE hK hh 7 6 rfl rfl (by decide) hz hdg kk
theorem sM_taken {mt mq mw ms ml mf mx mo mi mg : Int → Int} {th mn mh ev cu fr oo : Int} {y : Int} (hE : ze_ p c cc) (hK : va_K (dC, dI) vwCl (tM_ cA) s) (hh : hp_ (dC, dI) vwCl A H0 (wM_ q cA (mt, mq, mw, ms, ml, mf, mx, mo, mi, mg, th, mn, mh, ev, cu, fr, oo)) H locs) (hz : 0 ≤ z ∧ z < 64) (hy : zb_ y) (hdg : decode cc pc = .ok (.bastore, 1)) (kk : ∀ (H : Heap) (locs : List Loc), hp_ (dC, dI) vwCl A H0 (wM_ q cA (mt, mq, mw, ms, ml, mf, up_ mx z y, mo, mi, mg, th, mn, mh, ev, cu, fr, oo)) H locs → W p l e R s m args below meth c H locs cells slots Q (F0 m (pc + 1) ls rest)) : W p l e R s m args below meth c H locs cells slots Q (F0 m pc ls (.int (zi_ y) :: .int (zi_ z) :: .ref (q 7) :: rest)) := zv_zast (ws' := wM_ q cA (mt, mq, mw, ms, ml, mf, up_ mx z y, mo, mi, mg, th, mn, mh, ev, cu, fr, oo)) hE hK hh 7 6 rfl rfl (by decide) hz hy hdg rfl kk
theorem gM_opens {mt mq mw ms ml mf mx mo mi mg : Int → Int} {th mn mh ev cu fr oo : Int} (hE : ze_ p c cc) (hX : ∀ w ∈ wsM_, w.before args s = true) (hown : s.vm.findClass RX1 = some m.cls) (hK : va_K (dC, dI) vwCl (tM_ cA) s) (hh : hp_ (dC, dI) vwCl A H0 (wM_ q cA (mt, mq, mw, ms, ml, mf, mx, mo, mi, mg, th, mn, mh, ev, cu, fr, oo)) H locs) (hdg : decode cc pc = .ok (.getfield 65, 3)) (kk : W p l e R s m args below meth c H locs cells slots Q (F0 m (pc + 3) ls (.int (zi_ oo) :: rest))) : W p l e R s m args below meth c H locs cells slots Q (F0 m pc ls (.ref (q 0) :: rest)) := gM_ hE hX hown hK hh 13 (by decide) rfl mM_fl_65 rfl hdg kk
theorem pM_opens {mt mq mw ms ml mf mx mo mi mg : Int → Int} {th mn mh ev cu fr oo : Int} (hE : ze_ p c cc) (hX : ∀ w ∈ wsM_, w.before args s = true) (hown : s.vm.findClass RX1 = some m.cls) (hK : va_K (dC, dI) vwCl (tM_ cA) s) (hh : hp_ (dC, dI) vwCl A H0 (wM_ q cA (mt, mq, mw, ms, ml, mf, mx, mo, mi, mg, th, mn, mh, ev, cu, fr, oo)) H locs) (hdg : decode cc pc = .ok (.putfield 65, 3)) (kk : ∀ (H : Heap) (locs : List Loc), hp_ (dC, dI) vwCl A H0 (wM_ q cA (mt, mq, mw, ms, ml, mf, mx, mo, mi, mg, th, mn, mh, ev, cu, fr, z)) H locs → W p l e R s m args below meth c H locs cells slots Q (F0 m (pc + 3) ls rest)) : W p l e R s m args below meth c H locs cells slots Q (F0 m pc ls (.int (zi_ z) :: .ref (q 0) :: rest)) := pM_ (x' := (mt, mq, mw, ms, ml, mf, mx, mo, mi, mg, th, mn, mh, ev, cu, fr, z)) hE hX hown hK hh 13 (by decide) rfl mM_fl_65 rfl (by decide +kernel) (Nat.le_of_ble_eq_true rfl) hdg rfl kk
theorem gM_open {mt mq mw ms ml mf mx mo mi mg : Int → Int} {th mn mh ev cu fr oo : Int} (hE : ze_ p c cc) (hX : ∀ w ∈ wsM_, w.before args s = true) (hown : s.vm.findClass RX1 = some m.cls) (hK : va_K (dC, dI) vwCl (tM_ cA) s) (hh : hp_ (dC, dI) vwCl A H0 (wM_ q cA (mt, mq, mw, ms, ml, mf, mx, mo, mi, mg, th, mn, mh, ev, cu, fr, oo)) H locs) (hdg : decode cc pc = .ok (.getfield 36, 3)) (kk : W p l e R s m args below meth c H locs cells slots Q (F0 m (pc + 3) ls (.ref (q 8) :: rest))) : W p l e R s m args below meth c H locs cells slots Q (F0 m pc ls (.ref (q 0) :: rest)) := gM_ hE hX hown hK hh 14 (by decide) rfl mM_fl_36 rfl hdg kk
theorem rM_open {mt mq mw ms ml mf mx mo mi mg : Int → Int} {th mn mh ev cu fr oo : Int} (hE : ze_ p c cc) (hK : va_K (dC, dI) vwCl (tM_ cA) s) (hh : hp_ (dC, dI) vwCl A H0 (wM_ q cA (mt, mq, mw, ms, ml, mf, mx, mo, mi, mg, th, mn, mh, ev, cu, fr, oo)) H locs) (hz : 0 ≤ z ∧ z < 600) (hdg : decode cc pc = .ok (.iaload, 1)) (kk : W p l e R s m args below meth c H locs cells slots Q (F0 m (pc + 1) ls (.int (zi_ (mo z)) :: rest))) : W p l e R s m args below meth c H locs cells slots Q (F0 m pc ls (.int (zi_ z) :: .ref (q 8) :: rest)) := zv_iald hE hK hh 8 7 rfl rfl (by decide) hz hdg kk
theorem sM_open {mt mq mw ms ml mf mx mo mi mg : Int → Int} {th mn mh ev cu fr oo : Int} {y : Int} (hE : ze_ p c cc) (hK : va_K (dC, dI) vwCl (tM_ cA) s) (hh : hp_ (dC, dI) vwCl A H0 (wM_ q cA (mt, mq, mw, ms, ml, mf, mx, mo, mi, mg, th, mn, mh, ev, cu, fr, oo)) H locs) (hz : 0 ≤ z ∧ z < 600) (hdg : decode cc pc = .ok (.iastore, 1)) (kk : ∀ (H : Heap) (locs : List Loc), hp_ (dC, dI) vwCl A H0 (wM_ q cA (mt, mq, mw, ms, ml, mf, mx, up_ mo z y, mi, mg, th, mn, mh, ev, cu, fr, oo)) H locs → W p l e R s m args below meth c H locs cells slots Q (F0 m (pc + 1) ls rest)) : W p l e R s m args below meth c H locs cells slots Q (F0 m pc ls (.int (zi_ y) :: .int (zi_ z) :: .ref (q 8) :: rest)) := zv_iast (ws' := wM_ q cA (mt, mq, mw, ms, ml, mf, mx, up_ mo z y, mi, mg, th, mn, mh, ev, cu, fr, oo)) hE hK hh 8 7 rfl rfl (by decide) hz hdg rfl kk
theorem gM_openIn {mt mq mw ms ml mf mx mo mi mg : Int → Int} {th mn mh ev cu fr oo : Int} (hE : ze_ p c cc) (hX : ∀ w ∈ wsM_, w.before args s = true) (hown : s.vm.findClass RX1 = some m.cls) (hK : va_K (dC, dI) vwCl (tM_ cA) s) (hh : hp_ (dC, dI) vwCl A H0 (wM_ q cA (mt, mq, mw, ms, ml, mf, mx, mo, mi, mg, th, mn, mh, ev, cu, fr, oo)) H locs) (hdg : decode cc pc = .ok (.getfield 39, 3)) (kk : W p l e R s m args below meth c H locs cells slots Q (F0 m (pc + 3) ls (.ref (q 9) :: rest))) : W p l e R s m args below meth c H locs cells slots Q (F0 m pc ls (.ref (q 0) :: rest)) := gM_ hE hX hown hK hh 15 (by decide) rfl mM_fl_39 rfl hdg kk
theorem rM_openIn {mt mq mw ms ml mf mx mo mi mg : Int → Int} {th mn mh ev cu fr oo : Int} (hE : ze_ p c cc) (hK : va_K (dC, dI) vwCl (tM_ cA) s) (hh : hp_ (dC, dI) vwCl A H0 (wM_ q cA (mt, mq, mw, ms, ml, mf, mx, mo, mi, mg, th, mn, mh, ev, cu, fr, oo)) H locs) (hz : 0 ≤ z ∧ z < 600) (hdg : decode cc pc = .ok (.iaload, 1)) (kk : W p l e R s m args below meth c H locs cells slots Q (F0 m (pc + 1) ls (.int (zi_ (mi z)) :: rest))) : W p l e R s m args below meth c H locs cells slots Q (F0 m pc ls (.int (zi_ z) :: .ref (q 9) :: rest)) := zv_iald hE hK hh 9 8 rfl rfl (by decide) hz hdg kk
theorem sM_openIn {mt mq mw ms ml mf mx mo mi mg : Int → Int} {th mn mh ev cu fr oo : Int} {y : Int} (hE : ze_ p c cc) (hK : va_K (dC, dI) vwCl (tM_ cA) s) (hh : hp_ (dC, dI) vwCl A H0 (wM_ q cA (mt, mq, mw, ms, ml, mf, mx, mo, mi, mg, th, mn, mh, ev, cu, fr, oo)) H locs) (hz : 0 ≤ z ∧ z < 600) (hdg : decode cc pc = .ok (.iastore, 1)) (kk : ∀ (H : Heap) (locs : List Loc), hp_ (dC, dI) vwCl A H0 (wM_ q cA (mt, mq, mw, ms, ml, mf, mx, mo, up_ mi z y, mg, th, mn, mh, ev, cu, fr, oo)) H locs → W p l e R s m args below meth c H locs cells slots Q (F0 m (pc + 1) ls rest)) : W p l e R s m args below meth c H locs cells slots Q (F0 m pc ls (.int (zi_ y) :: .int (zi_ z) :: .ref (q 9) :: rest)) := zv_iast (ws' := wM_ q cA (mt, mq, mw, ms, ml, mf, mx, mo, up_ mi z y, mg, th, mn, mh, ev, cu, fr, oo)) hE hK hh 9 8 rfl rfl (by decide) hz hdg rfl kk
theorem gM_goes {mt mq mw ms ml mf mx mo mi mg : Int → Int} {th mn mh ev cu fr oo : Int} (hE : ze_ p c cc) (hX : ∀ w ∈ wsM_, w.before args s = true) (hown : s.vm.findClass RX1 = some m.cls) (hK : va_K (dC, dI) vwCl (tM_ cA) s) (hh : hp_ (dC, dI) vwCl A H0 (wM_ q cA (mt, mq, mw, ms, ml, mf, mx, mo, mi, mg, th, mn, mh, ev, cu, fr, oo)) H locs) (hdg : decode cc pc = .ok (.getfield 42, 3)) (kk : W p l e R s m args below meth c H locs cells slots Q (F0 m (pc + 3) ls (.ref (q 10) :: rest))) : W p l e R s m args below meth c H locs cells slots Q (F0 m pc ls (.ref (q 0) :: rest)) := gM_ hE hX hown hK hh 16 (by decide) rfl mM_fl_42 rfl hdg kk
theorem rM_goes {mt mq mw ms ml mf mx mo mi mg : Int → Int} {th mn mh ev cu fr oo : Int} (hE : ze_ p c cc) (hK : va_K (dC, dI) vwCl (tM_ cA) s) (hh : hp_ (dC, dI) vwCl A H0 (wM_ q cA (mt, mq, mw, ms, ml, mf, mx, mo, mi, mg, th, mn, mh, ev, cu, fr, oo)) H locs) (hz : 0 ≤ z ∧ z < 600) (hdg : decode cc pc = .ok (.baload, 1)) (kk : W p l e R s m args below meth c H locs cells slots Q (F0 m (pc + 1) ls (.int (zi_ (mg z)) :: rest))) : W p l e R s m args below meth c H locs cells slots Q (F0 m pc ls (.int (zi_ z) :: .ref (q 10) :: rest)) := zv_zald hE hK hh 10 9 rfl rfl (by decide) hz hdg kk
theorem sM_goes {mt mq mw ms ml mf mx mo mi mg : Int → Int} {th mn mh ev cu fr oo : Int} {y : Int} (hE : ze_ p c cc) (hK : va_K (dC, dI) vwCl (tM_ cA) s) (hh : hp_ (dC, dI) vwCl A H0 (wM_ q cA (mt, mq, mw, ms, ml, mf, mx, mo, mi, mg, th, mn, mh, ev, cu, fr, oo)) H locs) (hz : 0 ≤ z ∧ z < 600) (hy : zb_ y) (hdg : decode cc pc = .ok (.bastore, 1)) (kk : ∀ (H : Heap) (locs : List Loc), hp_ (dC, dI) vwCl A H0 (wM_ q cA (mt, mq, mw, ms, ml, mf, mx, mo, mi, up_ mg z y, th, mn, mh, ev, cu, fr, oo)) H locs → W p l e R s m args below meth c H locs cells slots Q (F0 m (pc + 1) ls rest)) : W p l e R s m args below meth c H locs cells slots Q (F0 m pc ls (.int (zi_ y) :: .int (zi_ z) :: .ref (q 10) :: rest)) := zv_zast (ws' := wM_ q cA (mt, mq, mw, ms, ml, mf, mx, mo, mi, up_ mg z y, th, mn, mh, ev, cu, fr, oo)) hE hK hh 10 9 rfl rfl (by decide) hz hy hdg rfl kk
end MV
end
section
set_option maxHeartbeats 400000 in
set_option maxRecDepth 100000 in
theorem kM_find (l : Launch) (dC : Nat → ClassId) (dI : Nat → Nat → Nat) (q : Nat → Nat) (cA : Nat → ClassId) (mt mq mw ms ml mf mx mo mi mg : Int → Int) (th mn mh ev cu fr oo : Int) (e1 : Int) (he0 : 0 ≤ ev) (he1 : ev ≤ 1200) (hme : ∀ k : Int, 0 ≤ k → k < ev → 0 ≤ ml k ∧ ml k < 1200) (hz : zr_ e1) : mc_i l (dC, dI) vwCl (tM_ cA) (wM_ q cA) yX1_find wsX1_find ({ frames := 0, cells := 0, slots := 0, locals := 0 }) (mt, mq, mw, ms, ml, mf, mx, mo, mi, mg, th, mn, mh, ev, cu, fr, oo) [.ref (q 0), .int (zi_ e1)] (fun (z : Int) (u : SM_) => u = (mt, mq, mw, ms, ml, mf, mx, mo, mi, mg, th, mn, mh, ev, cu, fr, oo) ∧ ((z = -1 ∧ ∀ k : Int, 0 ≤ k → k < ev → ml k ≠ e1) ∨ (0 ≤ z ∧ z < ev ∧ ml z = e1 ∧ ∀ k : Int, 0 ≤ k → k < z → ml k ≠ e1))) := by
  refine mc_i_of (cc := cX1_find) (maxL := 3) (ret := (some .int)) (by decide) rfl (Nat.le_of_ble_eq_true rfl) ?_
  intro p e s m below meth c A ls hE hml hown hts hr hlk hA hK hh hl
  have hown : s.vm.findClass RX1 = some m.cls := hown
  have hX : ∀ w ∈ wsM_, w.before _ s = true := fun w h => hts w (List.mem_cons_of_mem _ h)
  have hl : lv_has ls 3 [(0, .ref (q 0)), (1, .int (zi_ e1))] := hl
  have loop_2 : ∀ (n : Nat) (i : Int), (0 ≤ i) → (i ≤ ev) → (ev - i < (n : Int)) → (∀ k : Int, 0 ≤ k → k < i → ml k ≠ e1) → ∀ (H : Heap) (locs : List Loc), hp_ (dC, dI) vwCl A s.heap (wM_ q cA (mt, mq, mw, ms, ml, mf, mx, mo, mi, mg, th, mn, mh, ev, cu, fr, oo)) H locs → ∀ (ls : Array Slot), lv_has ls 3 [(2, .int (zi_ i)), (1, .int (zi_ e1)), (0, .ref (q 0))] → W p l e ({ frames := 0, cells := 0, slots := 0, locals := 0 }) s m ([.ref (q 0), .int (zi_ e1)] : List Value).toArray below meth c H locs 0 0 (MQ below (mc_Qi (dC, dI) vwCl (tM_ cA) (wM_ q cA) (fun (z : Int) (u : SM_) => u = (mt, mq, mw, ms, ml, mf, mx, mo, mi, mg, th, mn, mh, ev, cu, fr, oo) ∧ ((z = -1 ∧ ∀ k : Int, 0 ≤ k → k < ev → ml k ≠ e1) ∨ (0 ≤ z ∧ z < ev ∧ ml z = e1 ∧ ∀ k : Int, 0 ≤ k → k < z → ml k ≠ e1))) A) ([.ref (q 0), .int (zi_ e1)] : List Value).toArray s 0 0 A) (F0 m 2 ls []) := by
    intro n
    induction n with
    | zero => intros; exfalso; omega
    | succ n ih =>
      intro i h0 h1 hn hj H locs hh ls hl
      have hx : i < ev → 0 ≤ ml i ∧ ml i < 1200 := fun z => hme i h0 z
      refine lv_iload_n hE.1 hE.2 dX1_find_2 rfl (lv_at hl 0 rfl) ?_
      refine lv_aload_n hE.1 hE.2 dX1_find_3 rfl (lv_at hl 2 rfl) ?_
      refine gM_events hE hX hown hK hh dX1_find_4 ?_
      refine zv_icmp_ge (tgt := 28) hE dX1_find_7 (by decide) ⟨by omega, by omega⟩ ⟨by omega, by omega⟩ (fun hc_1 => ?_) (fun hc_1 => ?_)
      · refine zv_iconst hE dX1_find_28 ?_
        refine mc_ret (u := (mt, mq, mw, ms, ml, mf, mx, mo, mi, mg, th, mn, mh, ev, cu, fr, oo)) hE hr hlk hK hh dX1_find_29 ?_
        refine ⟨rfl, ?_⟩
        first | exact Or.inr ⟨by omega, by omega, by omega, hj⟩ | exact Or.inl ⟨by omega, fun k x y => hj k x (by omega)⟩
      · refine lv_aload_n hE.1 hE.2 dX1_find_10 rfl (lv_at hl 2 rfl) ?_
        refine gM_line hE hX hown hK hh dX1_find_11 ?_
        refine lv_iload_n hE.1 hE.2 dX1_find_14 rfl (lv_at hl 0 rfl) ?_
        refine rM_line hE hK hh ⟨by omega, by omega⟩ dX1_find_15 ?_
        refine lv_iload_n hE.1 hE.2 dX1_find_16 rfl (lv_at hl 1 rfl) ?_
        refine zv_icmp_ne (tgt := 22) hE dX1_find_17 (by decide) ⟨by omega, by omega⟩ ⟨by omega, by omega⟩ (fun hc_2 => ?_) (fun hc_2 => ?_)
        · refine zv_iinc (lv' := [(2, .int (zi_ (i + 1))), (1, .int (zi_ e1)), (0, .ref (q 0))]) hE dX1_find_22 hl (k := 0) rfl (by decide) rfl (fun ls hl => ?_)
          refine lv_goto (tgt := 2) hE.1 hE.2 dX1_find_25 (by decide) ?_
          exact ih (i + 1) (by omega) (by omega) (by omega) (fun k x y => if hq : k = i then (by rw [hq]; assumption) else hj k x (by omega)) _ _ hh ls (lv_sub hl [0, 1, 2] rfl)
        · refine lv_iload_n hE.1 hE.2 dX1_find_20 rfl (lv_at hl 0 rfl) ?_
          refine mc_ret (u := (mt, mq, mw, ms, ml, mf, mx, mo, mi, mg, th, mn, mh, ev, cu, fr, oo)) hE hr hlk hK hh dX1_find_21 ?_
          refine ⟨rfl, ?_⟩
          first | exact Or.inr ⟨by omega, by omega, by omega, hj⟩ | exact Or.inl ⟨by omega, fun k x y => hj k x (by omega)⟩
  refine zv_iconst hE dX1_find_0 ?_
  refine lv_istore_n (lv' := [(2, .int (zi_ 0)), (0, .ref (q 0)), (1, .int (zi_ e1))]) hE.1 hE.2 dX1_find_1 rfl hl (by decide) rfl (fun ls hl => ?_)
  exact loop_2 1300 0 (by omega) (by omega) (by omega) (fun k x y => by omega) _ _ hh ls (lv_sub hl [0, 2, 1] rfl)
set_option maxHeartbeats 400000 in
set_option maxRecDepth 100000 in
theorem kM_last (l : Launch) (dC : Nat → ClassId) (dI : Nat → Nat → Nat) (q : Nat → Nat) (cA : Nat → ClassId) (mt mq mw ms ml mf mx mo mi mg : Int → Int) (th mn mh ev cu fr oo : Int)  : mc_i l (dC, dI) vwCl (tM_ cA) (wM_ q cA) yX1_last wsX1_last ({ frames := 0, cells := 0, slots := 0, locals := 0 }) (mt, mq, mw, ms, ml, mf, mx, mo, mi, mg, th, mn, mh, ev, cu, fr, oo) [.ref (q 0)] (fun (z : Int) (u : SM_) => u = (mt, mq, mw, ms, ml, mf, mx, mo, mi, mg, th, mn, mh, ev, cu, fr, oo) ∧ z = fr - 1) := by
  refine mc_i_of (cc := cX1_last) (maxL := 1) (ret := (some .int)) (by decide) rfl (Nat.le_of_ble_eq_true rfl) ?_
  intro p e s m below meth c A ls hE hml hown hts hr hlk hA hK hh hl
  have hown : s.vm.findClass RX1 = some m.cls := hown
  have hX : ∀ w ∈ wsM_, w.before _ s = true := fun w h => hts w (List.mem_cons_of_mem _ h)
  have hl : lv_has ls 1 [(0, .ref (q 0))] := hl
  refine lv_aload_n hE.1 hE.2 dX1_last_0 rfl (lv_at hl 0 rfl) ?_
  refine gM_frames hE hX hown hK hh dX1_last_1 ?_
  refine zv_iconst hE dX1_last_4 ?_
  refine zv_isub hE dX1_last_5 ?_
  refine mc_ret (u := (mt, mq, mw, ms, ml, mf, mx, mo, mi, mg, th, mn, mh, ev, cu, fr, oo)) hE hr hlk hK hh dX1_last_6 ?_
  exact ⟨rfl, rfl⟩
set_option maxHeartbeats 400000 in
set_option maxRecDepth 100000 in
theorem kM_thrown (l : Launch) (dC : Nat → ClassId) (dI : Nat → Nat → Nat) (q : Nat → Nat) (cA : Nat → ClassId) (mt mq mw ms ml mf mx mo mi mg : Int → Int) (th mn mh ev cu fr oo : Int)  : mc_i l (dC, dI) vwCl (tM_ cA) (wM_ q cA) yX1_thrown wsX1_thrown ({ frames := 0, cells := 0, slots := 0, locals := 0 }) (mt, mq, mw, ms, ml, mf, mx, mo, mi, mg, th, mn, mh, ev, cu, fr, oo) [.ref (q 0)] (fun (z : Int) (u : SM_) => u = (mt, mq, mw, ms, ml, mf, mx, mo, mi, mg, th, mn, mh, ev, cu, fr, oo) ∧ z = th) := by
  refine mc_i_of (cc := cX1_thrown) (maxL := 1) (ret := (some .int)) (by decide) rfl (Nat.le_of_ble_eq_true rfl) ?_
  intro p e s m below meth c A ls hE hml hown hts hr hlk hA hK hh hl
  have hown : s.vm.findClass RX1 = some m.cls := hown
  have hX : ∀ w ∈ wsM_, w.before _ s = true := fun w h => hts w (List.mem_cons_of_mem _ h)
  have hl : lv_has ls 1 [(0, .ref (q 0))] := hl
  refine lv_aload_n hE.1 hE.2 dX1_thrown_0 rfl (lv_at hl 0 rfl) ?_
  refine gM_thrown hE hX hown hK hh dX1_thrown_1 ?_
  refine mc_ret (u := (mt, mq, mw, ms, ml, mf, mx, mo, mi, mg, th, mn, mh, ev, cu, fr, oo)) hE hr hlk hK hh dX1_thrown_4 ?_
  exact ⟨rfl, rfl⟩
set_option maxHeartbeats 400000 in
set_option maxRecDepth 100000 in
theorem kM_put (l : Launch) (dC : Nat → ClassId) (dI : Nat → Nat → Nat) (q : Nat → Nat) (cA : Nat → ClassId) (mt mq mw ms ml mf mx mo mi mg : Int → Int) (th mn mh ev cu fr oo : Int) (e1 : Int) (h0 : 0 ≤ cu) (h1 : cu ≤ ev) (h2 : ev < 1200) : mc_v l (dC, dI) vwCl (tM_ cA) (wM_ q cA) yX1_put wsX1_put ({ frames := 0, cells := 0, slots := 0, locals := 0 }) (mt, mq, mw, ms, ml, mf, mx, mo, mi, mg, th, mn, mh, ev, cu, fr, oo) [.ref (q 0), .int (zi_ e1)] (fun (u : SM_) => ∃ ml1 : Int → Int, mp_ ml ev cu ml1 ∧ u = (mt, mq, mw, ms, up_ ml1 cu e1, mf, mx, mo, mi, mg, th, mn, mh, ev + 1, cu + 1, fr, oo)) := by
  refine mc_v_of (cc := cX1_put) (maxL := 3) (ret := none) (by decide) rfl (Nat.le_of_ble_eq_true rfl) ?_
  intro p e s m below meth c A ls hE hml hown hts hr hlk hA hK hh hl
  have hown : s.vm.findClass RX1 = some m.cls := hown
  have hX : ∀ w ∈ wsM_, w.before _ s = true := fun w h => hts w (List.mem_cons_of_mem _ h)
  have hl : lv_has ls 3 [(0, .ref (q 0)), (1, .int (zi_ e1))] := hl
  have loop_5 : ∀ (n : Nat) (pl : Int) (ml1 : Int → Int), (cu ≤ pl) → (pl ≤ ev) → (pl - cu < (n : Int)) → (mp_ ml ev pl ml1) → ∀ (H : Heap) (locs : List Loc), hp_ (dC, dI) vwCl A s.heap (wM_ q cA (mt, mq, mw, ms, ml1, mf, mx, mo, mi, mg, th, mn, mh, ev, cu, fr, oo)) H locs → ∀ (ls : Array Slot), lv_has ls 3 [(2, .int (zi_ pl)), (1, .int (zi_ e1)), (0, .ref (q 0))] → W p l e ({ frames := 0, cells := 0, slots := 0, locals := 0 }) s m ([.ref (q 0), .int (zi_ e1)] : List Value).toArray below meth c H locs 0 0 (MQ below (mc_Qv (dC, dI) vwCl (tM_ cA) (wM_ q cA) (fun (u : SM_) => ∃ ml1 : Int → Int, mp_ ml ev cu ml1 ∧ u = (mt, mq, mw, ms, up_ ml1 cu e1, mf, mx, mo, mi, mg, th, mn, mh, ev + 1, cu + 1, fr, oo)) A) ([.ref (q 0), .int (zi_ e1)] : List Value).toArray s 0 0 A) (F0 m 5 ls []) := by
    intro n
    induction n with
    | zero => intros; exfalso; omega
    | succ n ih =>
      intro pl ml1 g0 g1 hn hmp H locs hh ls hl
      refine lv_iload_n hE.1 hE.2 dX1_put_5 rfl (lv_at hl 0 rfl) ?_
      refine lv_aload_n hE.1 hE.2 dX1_put_6 rfl (lv_at hl 2 rfl) ?_
      refine gM_cursor hE hX hown hK hh dX1_put_7 ?_
      refine zv_icmp_le (tgt := 33) hE dX1_put_10 (by decide) ⟨by omega, by omega⟩ ⟨by omega, by omega⟩ (fun hc_1 => ?_) (fun hc_1 => ?_)
      · refine lv_aload_n hE.1 hE.2 dX1_put_33 rfl (lv_at hl 2 rfl) ?_
        refine gM_line hE hX hown hK hh dX1_put_34 ?_
        refine lv_aload_n hE.1 hE.2 dX1_put_37 rfl (lv_at hl 2 rfl) ?_
        refine gM_cursor hE hX hown hK hh dX1_put_38 ?_
        refine lv_iload_n hE.1 hE.2 dX1_put_41 rfl (lv_at hl 1 rfl) ?_
        refine sM_line hE hK hh ⟨by omega, by omega⟩ dX1_put_42 (fun H locs hh => ?_)
        refine lv_aload_n hE.1 hE.2 dX1_put_43 rfl (lv_at hl 2 rfl) ?_
        refine lv_dup hE.1 hE.2 dX1_put_44 rfl ?_
        refine gM_events hE hX hown hK hh dX1_put_45 ?_
        refine zv_iconst hE dX1_put_48 ?_
        refine zv_iadd hE dX1_put_49 ?_
        refine pM_events hE hX hown hK hh dX1_put_50 (fun H locs hh => ?_)
        refine lv_aload_n hE.1 hE.2 dX1_put_53 rfl (lv_at hl 2 rfl) ?_
        refine lv_dup hE.1 hE.2 dX1_put_54 rfl ?_
        refine gM_cursor hE hX hown hK hh dX1_put_55 ?_
        refine zv_iconst hE dX1_put_58 ?_
        refine zv_iadd hE dX1_put_59 ?_
        refine pM_cursor hE hX hown hK hh dX1_put_60 (fun H locs hh => ?_)
        refine mc_retv (u := (mt, mq, mw, ms, up_ ml1 cu e1, mf, mx, mo, mi, mg, th, mn, mh, ev + 1, cu + 1, fr, oo)) hE hr hlk hK hh dX1_put_63 ?_
        exact ⟨ml1, (show pl = cu by omega) ▸ hmp, rfl⟩
      · refine lv_aload_n hE.1 hE.2 dX1_put_13 rfl (lv_at hl 2 rfl) ?_
        refine gM_line hE hX hown hK hh dX1_put_14 ?_
        refine lv_iload_n hE.1 hE.2 dX1_put_17 rfl (lv_at hl 0 rfl) ?_
        refine lv_aload_n hE.1 hE.2 dX1_put_18 rfl (lv_at hl 2 rfl) ?_
        refine gM_line hE hX hown hK hh dX1_put_19 ?_
        refine lv_iload_n hE.1 hE.2 dX1_put_22 rfl (lv_at hl 0 rfl) ?_
        refine zv_iconst hE dX1_put_23 ?_
        refine zv_isub hE dX1_put_24 ?_
        refine rM_line hE hK hh ⟨by omega, by omega⟩ dX1_put_25 ?_
        refine sM_line hE hK hh ⟨by omega, by omega⟩ dX1_put_26 (fun H locs hh => ?_)
        refine zv_iinc (lv' := [(2, .int (zi_ (pl + (-1)))), (1, .int (zi_ e1)), (0, .ref (q 0))]) hE dX1_put_27 hl (k := 0) rfl (by decide) rfl (fun ls hl => ?_)
        refine lv_goto (tgt := 5) hE.1 hE.2 dX1_put_30 (by decide) ?_
        exact ih (pl - 1) (up_ ml1 pl (ml1 (pl - 1))) (by omega) (by omega) (by omega) (mp_s hmp (by omega)) _ _ hh ls (lv_sub hl [0, 1, 2] rfl)
  refine lv_aload_n hE.1 hE.2 dX1_put_0 rfl (lv_at hl 0 rfl) ?_
  refine gM_events hE hX hown hK hh dX1_put_1 ?_
  refine lv_istore_n (lv' := [(2, .int (zi_ ev)), (0, .ref (q 0)), (1, .int (zi_ e1))]) hE.1 hE.2 dX1_put_4 rfl hl (by decide) rfl (fun ls hl => ?_)
  exact loop_5 1300 ev ml (by omega) (by omega) (by omega) mp_0 _ _ hh ls (lv_sub hl [0, 2, 1] rfl)
set_option maxHeartbeats 400000 in
set_option maxRecDepth 100000 in
theorem kM_isThere (l : Launch) (dC : Nat → ClassId) (dI : Nat → Nat → Nat) (q : Nat → Nat) (cA : Nat → ClassId) (mt mq mw ms ml mf mx mo mi mg : Int → Int) (th mn mh ev cu fr oo : Int) (i : Int) (sa : Int → Int) (hz : zr_ i) (hb : mt_ mt sa) : mc_i l (dC, dI) vwCl (tM_ cA) (wM_ q cA) yX1_isThere wsX1_isThere ({ frames := 0, cells := 0, slots := 0, locals := 0 }) (mt, mq, mw, ms, ml, mf, mx, mo, mi, mg, th, mn, mh, ev, cu, fr, oo) [.ref (q 0), .int (zi_ i)] (fun (z : Int) (u : SM_) => u = (mt, mq, mw, ms, ml, mf, mx, mo, mi, mg, th, mn, mh, ev, cu, fr, oo) ∧ (0 ≤ i ∧ i < 600 ∧ sa i ≠ -1 → z = 1) ∧ (i < 0 ∨ 600 ≤ i ∨ sa i = -1 → z = 0)) := by
  refine mc_i_of (cc := cX1_isThere) (maxL := 2) (ret := (some .boolean)) (by decide) rfl (Nat.le_of_ble_eq_true rfl) ?_
  intro p e s m below meth c A ls hE hml hown hts hr hlk hA hK hh hl
  have hown : s.vm.findClass RX1 = some m.cls := hown
  have hX : ∀ w ∈ wsM_, w.before _ s = true := fun w h => hts w (List.mem_cons_of_mem _ h)
  have hl : lv_has ls 2 [(0, .ref (q 0)), (1, .int (zi_ i))] := hl
  refine lv_iload_n hE.1 hE.2 dX1_isThere_0 rfl (lv_at hl 1 rfl) ?_
  refine zv_if_lt (tgt := 24) hE dX1_isThere_1 (by decide) ⟨by omega, by omega⟩ (fun hc_1 => ?_) (fun hc_1 => ?_)
  · refine zv_iconst hE dX1_isThere_24 ?_
    refine mc_retz (u := (mt, mq, mw, ms, ml, mf, mx, mo, mi, mg, th, mn, mh, ev, cu, fr, oo)) hE hr hlk hK hh dX1_isThere_25 (by first | exact Or.inl rfl | exact Or.inr rfl | assumption) ?_
    exact ⟨rfl, by omega, by omega⟩
  · refine lv_iload_n hE.1 hE.2 dX1_isThere_4 rfl (lv_at hl 1 rfl) ?_
    refine zv_sipush hE dX1_isThere_5 (by decide) ?_
    refine zv_icmp_ge (tgt := 24) hE dX1_isThere_8 (by decide) ⟨by omega, by omega⟩ ⟨by omega, by omega⟩ (fun hc_2 => ?_) (fun hc_2 => ?_)
    · refine zv_iconst hE dX1_isThere_24 ?_
      refine mc_retz (u := (mt, mq, mw, ms, ml, mf, mx, mo, mi, mg, th, mn, mh, ev, cu, fr, oo)) hE hr hlk hK hh dX1_isThere_25 (by first | exact Or.inl rfl | exact Or.inr rfl | assumption) ?_
      exact ⟨rfl, by omega, by omega⟩
    · refine lv_aload_n hE.1 hE.2 dX1_isThere_11 rfl (lv_at hl 0 rfl) ?_
      refine gM_there hE hX hown hK hh dX1_isThere_12 ?_
      refine lv_iload_n hE.1 hE.2 dX1_isThere_15 rfl (lv_at hl 1 rfl) ?_
      have hb1 := hb i (by omega) (by omega)
      refine rM_there hE hK hh ⟨by omega, by omega⟩ dX1_isThere_16 ?_
      refine zv_if_eq (tgt := 24) hE dX1_isThere_17 (by decide) ⟨by omega, by omega⟩ (fun hc_3 => ?_) (fun hc_3 => ?_)
      · refine zv_iconst hE dX1_isThere_24 ?_
        refine mc_retz (u := (mt, mq, mw, ms, ml, mf, mx, mo, mi, mg, th, mn, mh, ev, cu, fr, oo)) hE hr hlk hK hh dX1_isThere_25 (by first | exact Or.inl rfl | exact Or.inr rfl | assumption) ?_
        exact ⟨rfl, by omega, by omega⟩
      · refine zv_iconst hE dX1_isThere_20 ?_
        refine lv_goto (tgt := 25) hE.1 hE.2 dX1_isThere_21 (by decide) ?_
        refine mc_retz (u := (mt, mq, mw, ms, ml, mf, mx, mo, mi, mg, th, mn, mh, ev, cu, fr, oo)) hE hr hlk hK hh dX1_isThere_25 (by first | exact Or.inl rfl | exact Or.inr rfl | assumption) ?_
        exact ⟨rfl, by omega, by omega⟩
set_option maxHeartbeats 400000 in
set_option maxRecDepth 100000 in
theorem kM_isEnded (l : Launch) (dC : Nat → ClassId) (dI : Nat → Nat → Nat) (q : Nat → Nat) (cA : Nat → ClassId) (mt mq mw ms ml mf mx mo mi mg : Int → Int) (th mn mh ev cu fr oo : Int) (i : Int) (sa ea : Int → Int) (hw : pw_ sa ea ml ev) (h0 : 0 ≤ i) (h1 : i < 600) (hs : sa i ≠ -1) : mc_i l (dC, dI) vwCl (tM_ cA) (wM_ q cA) yX1_isEnded wsX1_isEnded ({ frames := 1, cells := 0, slots := 0, locals := 40 }) (mt, mq, mw, ms, ml, mf, mx, mo, mi, mg, th, mn, mh, ev, cu, fr, oo) [.ref (q 0), .int (zi_ i)] (fun (z : Int) (u : SM_) => u = (mt, mq, mw, ms, ml, mf, mx, mo, mi, mg, th, mn, mh, ev, cu, fr, oo) ∧ (ea i ≠ -1 → z = 1) ∧ (ea i = -1 → z = 0)) := by
  refine mc_i_of (cc := cX1_isEnded) (maxL := 2) (ret := (some .boolean)) (by decide) rfl (Nat.le_of_ble_eq_true rfl) ?_
  intro p e s m below meth c A ls hE hml hown hts hr hlk hA hK hh hl
  have hown : s.vm.findClass RX1 = some m.cls := hown
  have hX : ∀ w ∈ wsM_, w.before _ s = true := fun w h => hts w (List.mem_cons_of_mem _ h)
  have hl : lv_has ls 2 [(0, .ref (q 0)), (1, .int (zi_ i))] := hl
  have w1 := hw.1
  have w2 := hw.2.1 i h0 h1
  have w3 := hw.2.2.1 i h0 h1 hs
  refine lv_aload_n hE.1 hE.2 dX1_isEnded_0 rfl (lv_at hl 0 rfl) ?_
  refine zv_iconst hE dX1_isEnded_1 ?_
  refine lv_iload_n hE.1 hE.2 dX1_isEnded_2 rfl (lv_at hl 1 rfl) ?_
  refine zv_imul hE dX1_isEnded_3 ?_
  refine zv_iconst hE dX1_isEnded_4 ?_
  refine zv_iadd hE dX1_isEnded_5 ?_
  refine mc_call (rest := []) (As := [.int (zi_ ((2 * i) + 1))]) hE hml hown hX hA hK hh (kM_find l dC dI q cA mt mq mw ms ml mf mx mo mi mg th mn mh ev cu fr oo ((2 * i) + 1) (hw.1.1) (hw.1.2) (fun k x y => ⟨(hw.2.2.2 k x y).1, (hw.2.2.2 k x y).2.1⟩) (by exact ⟨by omega, by omega⟩)) (cwV 1 hX qM_find rfl rfl rfl (by decide +kernel) ⟨Nat.le_of_ble_eq_true rfl, Nat.le_of_ble_eq_true rfl⟩) rfl rfl hl.1 rfl (Nat.le_of_ble_eq_true rfl) dX1_isEnded_6 ⟨Nat.zero_le _, Nat.zero_le _⟩ rfl (fun z_2 u H locs hq_1 hh => ?_)
  obtain ⟨rfl, hq_1⟩ := hq_1
  obtain rfl := fd_e hw (by omega) (by omega) (by first | assumption | omega) hq_1
  refine zv_if_lt (tgt := 16) hE dX1_isEnded_9 (by decide) ⟨by omega, by omega⟩ (fun hc_3 => ?_) (fun hc_3 => ?_)
  · refine zv_iconst hE dX1_isEnded_16 ?_
    refine mc_retz (u := (mt, mq, mw, ms, ml, mf, mx, mo, mi, mg, th, mn, mh, ev, cu, fr, oo)) hE hr hlk hK hh dX1_isEnded_17 (by first | exact Or.inl rfl | exact Or.inr rfl | assumption) ?_
    exact ⟨rfl, by omega, by omega⟩
  · refine zv_iconst hE dX1_isEnded_12 ?_
    refine lv_goto (tgt := 17) hE.1 hE.2 dX1_isEnded_13 (by decide) ?_
    refine mc_retz (u := (mt, mq, mw, ms, ml, mf, mx, mo, mi, mg, th, mn, mh, ev, cu, fr, oo)) hE hr hlk hK hh dX1_isEnded_17 (by first | exact Or.inl rfl | exact Or.inr rfl | assumption) ?_
    exact ⟨rfl, by omega, by omega⟩
set_option maxHeartbeats 400000 in
set_option maxRecDepth 100000 in
theorem kM_endOf (l : Launch) (dC : Nat → ClassId) (dI : Nat → Nat → Nat) (q : Nat → Nat) (cA : Nat → ClassId) (mt mq mw ms ml mf mx mo mi mg : Int → Int) (th mn mh ev cu fr oo : Int) (i : Int) (sa ea : Int → Int) (hw : pw_ sa ea ml ev) (h0 : 0 ≤ i) (h1 : i < 600) (hs : sa i ≠ -1) : mc_i l (dC, dI) vwCl (tM_ cA) (wM_ q cA) yX1_endOf wsX1_endOf ({ frames := 1, cells := 0, slots := 0, locals := 40 }) (mt, mq, mw, ms, ml, mf, mx, mo, mi, mg, th, mn, mh, ev, cu, fr, oo) [.ref (q 0), .int (zi_ i)] (fun (z : Int) (u : SM_) => u = (mt, mq, mw, ms, ml, mf, mx, mo, mi, mg, th, mn, mh, ev, cu, fr, oo) ∧ z = ut_ ea ev i) := by
  refine mc_i_of (cc := cX1_endOf) (maxL := 3) (ret := (some .int)) (by decide) rfl (Nat.le_of_ble_eq_true rfl) ?_
  intro p e s m below meth c A ls hE hml hown hts hr hlk hA hK hh hl
  have hown : s.vm.findClass RX1 = some m.cls := hown
  have hX : ∀ w ∈ wsM_, w.before _ s = true := fun w h => hts w (List.mem_cons_of_mem _ h)
  have hl : lv_has ls 3 [(0, .ref (q 0)), (1, .int (zi_ i))] := hl
  have w1 := hw.1
  have w2 := hw.2.1 i h0 h1
  have w3 := hw.2.2.1 i h0 h1 hs
  refine lv_aload_n hE.1 hE.2 dX1_endOf_0 rfl (lv_at hl 0 rfl) ?_
  refine zv_iconst hE dX1_endOf_1 ?_
  refine lv_iload_n hE.1 hE.2 dX1_endOf_2 rfl (lv_at hl 1 rfl) ?_
  refine zv_imul hE dX1_endOf_3 ?_
  refine zv_iconst hE dX1_endOf_4 ?_
  refine zv_iadd hE dX1_endOf_5 ?_
  refine mc_call (rest := []) (As := [.int (zi_ ((2 * i) + 1))]) hE hml hown hX hA hK hh (kM_find l dC dI q cA mt mq mw ms ml mf mx mo mi mg th mn mh ev cu fr oo ((2 * i) + 1) (hw.1.1) (hw.1.2) (fun k x y => ⟨(hw.2.2.2 k x y).1, (hw.2.2.2 k x y).2.1⟩) (by exact ⟨by omega, by omega⟩)) (cwV 1 hX qM_find rfl rfl rfl (by decide +kernel) ⟨Nat.le_of_ble_eq_true rfl, Nat.le_of_ble_eq_true rfl⟩) rfl rfl hl.1 rfl (Nat.le_of_ble_eq_true rfl) dX1_endOf_6 ⟨Nat.zero_le _, Nat.zero_le _⟩ rfl (fun z_2 u H locs hq_1 hh => ?_)
  obtain ⟨rfl, hq_1⟩ := hq_1
  obtain rfl := fd_e hw (by omega) (by omega) (by first | assumption | omega) hq_1
  refine lv_istore_n (lv' := [(2, .int (zi_ (ea i))), (0, .ref (q 0)), (1, .int (zi_ i))]) hE.1 hE.2 dX1_endOf_9 rfl hl (by decide) rfl (fun ls hl => ?_)
  refine lv_iload_n hE.1 hE.2 dX1_endOf_10 rfl (lv_at hl 0 rfl) ?_
  refine zv_if_ge (tgt := 21) hE dX1_endOf_11 (by decide) ⟨by omega, by omega⟩ (fun hc_3 => ?_) (fun hc_3 => ?_)
  · refine lv_iload_n hE.1 hE.2 dX1_endOf_21 rfl (lv_at hl 0 rfl) ?_
    refine mc_ret (u := (mt, mq, mw, ms, ml, mf, mx, mo, mi, mg, th, mn, mh, ev, cu, fr, oo)) hE hr hlk hK hh dX1_endOf_22 ?_
    exact ⟨rfl, by unfold ut_; first | rw [if_pos (by omega)] | rw [if_neg (by omega)]⟩
  · refine lv_aload_n hE.1 hE.2 dX1_endOf_14 rfl (lv_at hl 1 rfl) ?_
    refine gM_events hE hX hown hK hh dX1_endOf_15 ?_
    refine lv_goto (tgt := 22) hE.1 hE.2 dX1_endOf_18 (by decide) ?_
    refine mc_ret (u := (mt, mq, mw, ms, ml, mf, mx, mo, mi, mg, th, mn, mh, ev, cu, fr, oo)) hE hr hlk hK hh dX1_endOf_22 ?_
    exact ⟨rfl, by unfold ut_; first | rw [if_pos (by omega)] | rw [if_neg (by omega)]⟩
set_option maxHeartbeats 400000 in
set_option maxRecDepth 100000 in
theorem kM_limit (l : Launch) (dC : Nat → ClassId) (dI : Nat → Nat → Nat) (q : Nat → Nat) (cA : Nat → ClassId) (mt mq mw ms ml mf mx mo mi mg : Int → Int) (th mn mh ev cu fr oo : Int) (sa ea : Int → Int) (hw : pw_ sa ea ml ev) (hf1 : 1 ≤ fr) (hf2 : fr ≤ 64) (hm0 : fr = 1 → mf (fr - 1) = -1) (hm1 : 1 < fr → 0 ≤ mf (fr - 1) ∧ mf (fr - 1) < 600 ∧ sa (mf (fr - 1)) ≠ -1) : mc_i l (dC, dI) vwCl (tM_ cA) (wM_ q cA) yX1_limit wsX1_limit ({ frames := 1, cells := 0, slots := 0, locals := 40 }) (mt, mq, mw, ms, ml, mf, mx, mo, mi, mg, th, mn, mh, ev, cu, fr, oo) [.ref (q 0)] (fun (z : Int) (u : SM_) => u = (mt, mq, mw, ms, ml, mf, mx, mo, mi, mg, th, mn, mh, ev, cu, fr, oo) ∧ z = lm_ mf ea ev fr) := by
  refine mc_i_of (cc := cX1_limit) (maxL := 1) (ret := (some .int)) (by decide) rfl (Nat.le_of_ble_eq_true rfl) ?_
  intro p e s m below meth c A ls hE hml hown hts hr hlk hA hK hh hl
  have hown : s.vm.findClass RX1 = some m.cls := hown
  have hX : ∀ w ∈ wsM_, w.before _ s = true := fun w h => hts w (List.mem_cons_of_mem _ h)
  have hl : lv_has ls 1 [(0, .ref (q 0))] := hl
  refine lv_aload_n hE.1 hE.2 dX1_limit_0 rfl (lv_at hl 0 rfl) ?_
  refine gM_frames hE hX hown hK hh dX1_limit_1 ?_
  refine zv_iconst hE dX1_limit_4 ?_
  refine zv_icmp_ne (tgt := 15) hE dX1_limit_5 (by decide) ⟨by omega, by omega⟩ ⟨by omega, by omega⟩ (fun hc_1 => ?_) (fun hc_1 => ?_)
  · refine lv_aload_n hE.1 hE.2 dX1_limit_15 rfl (lv_at hl 0 rfl) ?_
    refine zv_iconst hE dX1_limit_16 ?_
    refine lv_aload_n hE.1 hE.2 dX1_limit_17 rfl (lv_at hl 0 rfl) ?_
    refine gM_frameOf hE hX hown hK hh dX1_limit_18 ?_
    refine lv_aload_n hE.1 hE.2 dX1_limit_21 rfl (lv_at hl 0 rfl) ?_
    refine mc_call (rest := [.ref (q 6), .int (zi_ 2), .ref (q 0)]) (As := []) hE hml hown hX hA hK hh (kM_last l dC dI q cA mt mq mw ms ml mf mx mo mi mg th mn mh ev cu fr oo) (cwV 0 hX qM_last rfl rfl rfl (by decide +kernel) ⟨Nat.le_of_ble_eq_true rfl, Nat.le_of_ble_eq_true rfl⟩) rfl rfl hl.1 rfl (Nat.le_of_ble_eq_true rfl) dX1_limit_22 ⟨Nat.zero_le _, Nat.zero_le _⟩ rfl (fun z_3 u H locs hq_2 hh => ?_)
    obtain ⟨rfl, rfl⟩ := hq_2
    have hm2 := hm1 (by omega)
    have hm3 := hm2.2.2
    refine rM_frameOf hE hK hh ⟨by omega, by omega⟩ dX1_limit_25 ?_
    refine zv_imul hE dX1_limit_26 ?_
    refine zv_iconst hE dX1_limit_27 ?_
    refine zv_iadd hE dX1_limit_28 ?_
    refine mc_call (rest := []) (As := [.int (zi_ ((2 * (mf (fr - 1))) + 1))]) hE hml hown hX hA hK hh (kM_find l dC dI q cA mt mq mw ms ml mf mx mo mi mg th mn mh ev cu fr oo ((2 * (mf (fr - 1))) + 1) (hw.1.1) (hw.1.2) (fun k x y => ⟨(hw.2.2.2 k x y).1, (hw.2.2.2 k x y).2.1⟩) (by exact ⟨by omega, by omega⟩)) (cwV 1 hX qM_find rfl rfl rfl (by decide +kernel) ⟨Nat.le_of_ble_eq_true rfl, Nat.le_of_ble_eq_true rfl⟩) rfl rfl hl.1 rfl (Nat.le_of_ble_eq_true rfl) dX1_limit_29 ⟨Nat.zero_le _, Nat.zero_le _⟩ rfl (fun z_5 u H locs hq_4 hh => ?_)
    obtain ⟨rfl, hq_4⟩ := hq_4
    obtain rfl := fd_e hw (by omega) (by omega) (by first | assumption | omega) hq_4
    refine mc_ret (u := (mt, mq, mw, ms, ml, mf, mx, mo, mi, mg, th, mn, mh, ev, cu, fr, oo)) hE hr hlk hK hh dX1_limit_32 ?_
    exact ⟨rfl, by unfold lm_; first | rw [if_pos (by omega)] | rw [if_neg (by omega)]⟩
  · refine lv_aload_n hE.1 hE.2 dX1_limit_8 rfl (lv_at hl 0 rfl) ?_
    refine gM_events hE hX hown hK hh dX1_limit_9 ?_
    refine lv_goto (tgt := 32) hE.1 hE.2 dX1_limit_12 (by decide) ?_
    refine mc_ret (u := (mt, mq, mw, ms, ml, mf, mx, mo, mi, mg, th, mn, mh, ev, cu, fr, oo)) hE hr hlk hK hh dX1_limit_32 ?_
    exact ⟨rfl, by unfold lm_; first | rw [if_pos (by omega)] | rw [if_neg (by omega)]⟩
set_option maxHeartbeats 400000 in
set_option maxRecDepth 100000 in
theorem kM_isAhead (l : Launch) (dC : Nat → ClassId) (dI : Nat → Nat → Nat) (q : Nat → Nat) (cA : Nat → ClassId) (mt mq mw ms ml mf mx mo mi mg : Int → Int) (th mn mh ev cu fr oo : Int) (pl : Int) (sa ea : Int → Int) (hw : pw_ sa ea ml ev) (hf1 : 1 ≤ fr) (hf2 : fr ≤ 64) (hm0 : fr = 1 → mf (fr - 1) = -1) (hm1 : 1 < fr → 0 ≤ mf (fr - 1) ∧ mf (fr - 1) < 600 ∧ sa (mf (fr - 1)) ≠ -1) (hz : zr_ pl) (hc : zr_ cu) (hlz : zr_ (lm_ mf ea ev fr)) : mc_i l (dC, dI) vwCl (tM_ cA) (wM_ q cA) yX1_isAhead wsX1_isAhead ({ frames := 2, cells := 0, slots := 0, locals := 80 }) (mt, mq, mw, ms, ml, mf, mx, mo, mi, mg, th, mn, mh, ev, cu, fr, oo) [.ref (q 0), .int (zi_ pl)] (fun (z : Int) (u : SM_) => u = (mt, mq, mw, ms, ml, mf, mx, mo, mi, mg, th, mn, mh, ev, cu, fr, oo) ∧ (cu ≤ pl ∧ pl < (lm_ mf ea ev fr) → z = 1) ∧ (pl < cu ∨ (lm_ mf ea ev fr) ≤ pl → z = 0)) := by
  refine mc_i_of (cc := cX1_isAhead) (maxL := 2) (ret := (some .boolean)) (by decide) rfl (Nat.le_of_ble_eq_true rfl) ?_
  intro p e s m below meth c A ls hE hml hown hts hr hlk hA hK hh hl
  have hown : s.vm.findClass RX1 = some m.cls := hown
  have hX : ∀ w ∈ wsM_, w.before _ s = true := fun w h => hts w (List.mem_cons_of_mem _ h)
  have hl : lv_has ls 2 [(0, .ref (q 0)), (1, .int (zi_ pl))] := hl
  refine lv_iload_n hE.1 hE.2 dX1_isAhead_0 rfl (lv_at hl 1 rfl) ?_
  refine lv_aload_n hE.1 hE.2 dX1_isAhead_1 rfl (lv_at hl 0 rfl) ?_
  refine gM_cursor hE hX hown hK hh dX1_isAhead_2 ?_
  refine zv_icmp_lt (tgt := 20) hE dX1_isAhead_5 (by decide) ⟨by omega, by omega⟩ ⟨by omega, by omega⟩ (fun hc_1 => ?_) (fun hc_1 => ?_)
  · refine zv_iconst hE dX1_isAhead_20 ?_
    refine mc_retz (u := (mt, mq, mw, ms, ml, mf, mx, mo, mi, mg, th, mn, mh, ev, cu, fr, oo)) hE hr hlk hK hh dX1_isAhead_21 (by first | exact Or.inl rfl | exact Or.inr rfl | assumption) ?_
    exact ⟨rfl, by omega, by omega⟩
  · refine lv_iload_n hE.1 hE.2 dX1_isAhead_8 rfl (lv_at hl 1 rfl) ?_
    refine lv_aload_n hE.1 hE.2 dX1_isAhead_9 rfl (lv_at hl 0 rfl) ?_
    refine mc_call (rest := [.int (zi_ pl)]) (As := []) hE hml hown hX hA hK hh (kM_limit l dC dI q cA mt mq mw ms ml mf mx mo mi mg th mn mh ev cu fr oo sa ea hw hf1 hf2 hm0 hm1) (cwV 0 hX qM_limit rfl rfl rfl (by decide +kernel) ⟨Nat.le_of_ble_eq_true rfl, Nat.le_of_ble_eq_true rfl⟩) rfl rfl hl.1 rfl (Nat.le_of_ble_eq_true rfl) dX1_isAhead_10 ⟨Nat.zero_le _, Nat.zero_le _⟩ rfl (fun z_3 u H locs hq_2 hh => ?_)
    obtain ⟨rfl, rfl⟩ := hq_2
    refine zv_icmp_ge (tgt := 20) hE dX1_isAhead_13 (by decide) ⟨by omega, by omega⟩ ⟨by omega, by omega⟩ (fun hc_4 => ?_) (fun hc_4 => ?_)
    · refine zv_iconst hE dX1_isAhead_20 ?_
      refine mc_retz (u := (mt, mq, mw, ms, ml, mf, mx, mo, mi, mg, th, mn, mh, ev, cu, fr, oo)) hE hr hlk hK hh dX1_isAhead_21 (by first | exact Or.inl rfl | exact Or.inr rfl | assumption) ?_
      exact ⟨rfl, by omega, by omega⟩
    · refine zv_iconst hE dX1_isAhead_16 ?_
      refine lv_goto (tgt := 21) hE.1 hE.2 dX1_isAhead_17 (by decide) ?_
      refine mc_retz (u := (mt, mq, mw, ms, ml, mf, mx, mo, mi, mg, th, mn, mh, ev, cu, fr, oo)) hE hr hlk hK hh dX1_isAhead_21 (by first | exact Or.inl rfl | exact Or.inr rfl | assumption) ?_
      exact ⟨rfl, by omega, by omega⟩
set_option maxHeartbeats 400000 in
set_option maxRecDepth 100000 in
theorem kM_hasOpen (l : Launch) (dC : Nat → ClassId) (dI : Nat → Nat → Nat) (q : Nat → Nat) (cA : Nat → ClassId) (mt mq mw ms ml mf mx mo mi mg : Int → Int) (th mn mh ev cu fr oo : Int) (ho0 : 0 ≤ oo) (ho1 : oo ≤ 600) (hf1 : 1 ≤ fr) (hf2 : fr ≤ 64) (hmi : 0 < oo → 0 ≤ mi (oo - 1) ∧ mi (oo - 1) < 64) : mc_i l (dC, dI) vwCl (tM_ cA) (wM_ q cA) yX1_hasOpen wsX1_hasOpen ({ frames := 1, cells := 0, slots := 0, locals := 40 }) (mt, mq, mw, ms, ml, mf, mx, mo, mi, mg, th, mn, mh, ev, cu, fr, oo) [.ref (q 0)] (fun (z : Int) (u : SM_) => u = (mt, mq, mw, ms, ml, mf, mx, mo, mi, mg, th, mn, mh, ev, cu, fr, oo) ∧ (0 < oo ∧ mi (oo - 1) = fr - 1 → z = 1) ∧ (oo ≤ 0 ∨ mi (oo - 1) ≠ fr - 1 → z = 0)) := by
  refine mc_i_of (cc := cX1_hasOpen) (maxL := 1) (ret := (some .boolean)) (by decide) rfl (Nat.le_of_ble_eq_true rfl) ?_
  intro p e s m below meth c A ls hE hml hown hts hr hlk hA hK hh hl
  have hown : s.vm.findClass RX1 = some m.cls := hown
  have hX : ∀ w ∈ wsM_, w.before _ s = true := fun w h => hts w (List.mem_cons_of_mem _ h)
  have hl : lv_has ls 1 [(0, .ref (q 0))] := hl
  refine lv_aload_n hE.1 hE.2 dX1_hasOpen_0 rfl (lv_at hl 0 rfl) ?_
  refine gM_opens hE hX hown hK hh dX1_hasOpen_1 ?_
  refine zv_if_le (tgt := 29) hE dX1_hasOpen_4 (by decide) ⟨by omega, by omega⟩ (fun hc_1 => ?_) (fun hc_1 => ?_)
  · refine zv_iconst hE dX1_hasOpen_29 ?_
    refine mc_retz (u := (mt, mq, mw, ms, ml, mf, mx, mo, mi, mg, th, mn, mh, ev, cu, fr, oo)) hE hr hlk hK hh dX1_hasOpen_30 (by first | exact Or.inl rfl | exact Or.inr rfl | assumption) ?_
    exact ⟨rfl, by omega, by omega⟩
  · refine lv_aload_n hE.1 hE.2 dX1_hasOpen_7 rfl (lv_at hl 0 rfl) ?_
    refine gM_openIn hE hX hown hK hh dX1_hasOpen_8 ?_
    refine lv_aload_n hE.1 hE.2 dX1_hasOpen_11 rfl (lv_at hl 0 rfl) ?_
    refine gM_opens hE hX hown hK hh dX1_hasOpen_12 ?_
    refine zv_iconst hE dX1_hasOpen_15 ?_
    refine zv_isub hE dX1_hasOpen_16 ?_
    refine rM_openIn hE hK hh ⟨by omega, by omega⟩ dX1_hasOpen_17 ?_
    refine lv_aload_n hE.1 hE.2 dX1_hasOpen_18 rfl (lv_at hl 0 rfl) ?_
    refine mc_call (rest := [.int (zi_ (mi (oo - 1)))]) (As := []) hE hml hown hX hA hK hh (kM_last l dC dI q cA mt mq mw ms ml mf mx mo mi mg th mn mh ev cu fr oo) (cwV 0 hX qM_last rfl rfl rfl (by decide +kernel) ⟨Nat.le_of_ble_eq_true rfl, Nat.le_of_ble_eq_true rfl⟩) rfl rfl hl.1 rfl (Nat.le_of_ble_eq_true rfl) dX1_hasOpen_19 ⟨Nat.zero_le _, Nat.zero_le _⟩ rfl (fun z_3 u H locs hq_2 hh => ?_)
    obtain ⟨rfl, rfl⟩ := hq_2
    refine zv_icmp_ne (tgt := 29) hE dX1_hasOpen_22 (by decide) ⟨by omega, by omega⟩ ⟨by omega, by omega⟩ (fun hc_4 => ?_) (fun hc_4 => ?_)
    · refine zv_iconst hE dX1_hasOpen_29 ?_
      refine mc_retz (u := (mt, mq, mw, ms, ml, mf, mx, mo, mi, mg, th, mn, mh, ev, cu, fr, oo)) hE hr hlk hK hh dX1_hasOpen_30 (by first | exact Or.inl rfl | exact Or.inr rfl | assumption) ?_
      exact ⟨rfl, by omega, by omega⟩
    · refine zv_iconst hE dX1_hasOpen_25 ?_
      refine lv_goto (tgt := 30) hE.1 hE.2 dX1_hasOpen_26 (by decide) ?_
      refine mc_retz (u := (mt, mq, mw, ms, ml, mf, mx, mo, mi, mg, th, mn, mh, ev, cu, fr, oo)) hE hr hlk hK hh dX1_hasOpen_30 (by first | exact Or.inl rfl | exact Or.inr rfl | assumption) ?_
      exact ⟨rfl, by omega, by omega⟩
set_option maxHeartbeats 400000 in
set_option maxRecDepth 100000 in
theorem kM_isFree (l : Launch) (dC : Nat → ClassId) (dI : Nat → Nat → Nat) (q : Nat → Nat) (cA : Nat → ClassId) (mt mq mw ms ml mf mx mo mi mg : Int → Int) (th mn mh ev cu fr oo : Int) (ho0 : 0 ≤ oo) (ho1 : oo ≤ 600) (hf1 : 1 ≤ fr) (hf2 : fr ≤ 64) : mc_i l (dC, dI) vwCl (tM_ cA) (wM_ q cA) yX1_isFree wsX1_isFree ({ frames := 0, cells := 0, slots := 0, locals := 0 }) (mt, mq, mw, ms, ml, mf, mx, mo, mi, mg, th, mn, mh, ev, cu, fr, oo) [.ref (q 0)] (fun (z : Int) (u : SM_) => u = (mt, mq, mw, ms, ml, mf, mx, mo, mi, mg, th, mn, mh, ev, cu, fr, oo) ∧ (fr = 1 ∧ oo = 0 → z = 1) ∧ (fr ≠ 1 ∨ oo ≠ 0 → z = 0)) := by
  refine mc_i_of (cc := cX1_isFree) (maxL := 1) (ret := (some .boolean)) (by decide) rfl (Nat.le_of_ble_eq_true rfl) ?_
  intro p e s m below meth c A ls hE hml hown hts hr hlk hA hK hh hl
  have hown : s.vm.findClass RX1 = some m.cls := hown
  have hX : ∀ w ∈ wsM_, w.before _ s = true := fun w h => hts w (List.mem_cons_of_mem _ h)
  have hl : lv_has ls 1 [(0, .ref (q 0))] := hl
  refine lv_aload_n hE.1 hE.2 dX1_isFree_0 rfl (lv_at hl 0 rfl) ?_
  refine gM_frames hE hX hown hK hh dX1_isFree_1 ?_
  refine zv_iconst hE dX1_isFree_4 ?_
  refine zv_icmp_ne (tgt := 19) hE dX1_isFree_5 (by decide) ⟨by omega, by omega⟩ ⟨by omega, by omega⟩ (fun hc_1 => ?_) (fun hc_1 => ?_)
  · refine zv_iconst hE dX1_isFree_19 ?_
    refine mc_retz (u := (mt, mq, mw, ms, ml, mf, mx, mo, mi, mg, th, mn, mh, ev, cu, fr, oo)) hE hr hlk hK hh dX1_isFree_20 (by first | exact Or.inl rfl | exact Or.inr rfl | assumption) ?_
    exact ⟨rfl, by omega, by omega⟩
  · refine lv_aload_n hE.1 hE.2 dX1_isFree_8 rfl (lv_at hl 0 rfl) ?_
    refine gM_opens hE hX hown hK hh dX1_isFree_9 ?_
    refine zv_if_ne (tgt := 19) hE dX1_isFree_12 (by decide) ⟨by omega, by omega⟩ (fun hc_2 => ?_) (fun hc_2 => ?_)
    · refine zv_iconst hE dX1_isFree_19 ?_
      refine mc_retz (u := (mt, mq, mw, ms, ml, mf, mx, mo, mi, mg, th, mn, mh, ev, cu, fr, oo)) hE hr hlk hK hh dX1_isFree_20 (by first | exact Or.inl rfl | exact Or.inr rfl | assumption) ?_
      exact ⟨rfl, by omega, by omega⟩
    · refine zv_iconst hE dX1_isFree_15 ?_
      refine lv_goto (tgt := 20) hE.1 hE.2 dX1_isFree_16 (by decide) ?_
      refine mc_retz (u := (mt, mq, mw, ms, ml, mf, mx, mo, mi, mg, th, mn, mh, ev, cu, fr, oo)) hE hr hlk hK hh dX1_isFree_20 (by first | exact Or.inl rfl | exact Or.inr rfl | assumption) ?_
      exact ⟨rfl, by omega, by omega⟩
set_option maxHeartbeats 400000 in
set_option maxRecDepth 100000 in
theorem kM_frame (l : Launch) (dC : Nat → ClassId) (dI : Nat → Nat → Nat) (q : Nat → Nat) (cA : Nat → ClassId) (mt mq mw ms ml mf mx mo mi mg : Int → Int) (th mn mh ev cu fr oo : Int) (i t1 : Int) (sa ea : Int → Int) (hw : pw_ sa ea ml ev) (hf1 : 1 ≤ fr) (hf2 : fr < 64) (h0 : 0 ≤ i) (h1 : i < 600) (ht : zb_ t1) : mc_v l (dC, dI) vwCl (tM_ cA) (wM_ q cA) yX1_frame wsX1_frame ({ frames := 1, cells := 0, slots := 0, locals := 40 }) (mt, mq, mw, ms, ml, mf, mx, mo, mi, mg, th, mn, mh, ev, cu, fr, oo) [.ref (q 0), .int (zi_ i), .int (zi_ t1)] (fun (u : SM_) => u = (mt, mq, mw, ms, ml, up_ mf fr i, up_ mx fr t1, mo, mi, mg, th, mn, mh, ev, sa i + 1, fr + 1, oo)) := by
  refine mc_v_of (cc := cX1_frame) (maxL := 3) (ret := none) (by decide) rfl (Nat.le_of_ble_eq_true rfl) ?_
  intro p e s m below meth c A ls hE hml hown hts hr hlk hA hK hh hl
  have hown : s.vm.findClass RX1 = some m.cls := hown
  have hX : ∀ w ∈ wsM_, w.before _ s = true := fun w h => hts w (List.mem_cons_of_mem _ h)
  have hl : lv_has ls 3 [(0, .ref (q 0)), (1, .int (zi_ i)), (2, .int (zi_ t1))] := hl
  refine lv_aload_n hE.1 hE.2 dX1_frame_0 rfl (lv_at hl 0 rfl) ?_
  refine gM_frameOf hE hX hown hK hh dX1_frame_1 ?_
  refine lv_aload_n hE.1 hE.2 dX1_frame_4 rfl (lv_at hl 0 rfl) ?_
  refine gM_frames hE hX hown hK hh dX1_frame_5 ?_
  refine lv_iload_n hE.1 hE.2 dX1_frame_8 rfl (lv_at hl 1 rfl) ?_
  refine sM_frameOf hE hK hh ⟨by omega, by omega⟩ dX1_frame_9 (fun H locs hh => ?_)
  refine lv_aload_n hE.1 hE.2 dX1_frame_10 rfl (lv_at hl 0 rfl) ?_
  refine gM_taken hE hX hown hK hh dX1_frame_11 ?_
  refine lv_aload_n hE.1 hE.2 dX1_frame_14 rfl (lv_at hl 0 rfl) ?_
  refine gM_frames hE hX hown hK hh dX1_frame_15 ?_
  refine lv_iload_n hE.1 hE.2 dX1_frame_18 rfl (lv_at hl 2 rfl) ?_
  refine sM_taken hE hK hh ⟨by omega, by omega⟩ (by first | exact Or.inl rfl | exact Or.inr rfl | assumption) dX1_frame_19 (fun H locs hh => ?_)
  refine lv_aload_n hE.1 hE.2 dX1_frame_20 rfl (lv_at hl 0 rfl) ?_
  refine lv_dup hE.1 hE.2 dX1_frame_21 rfl ?_
  refine gM_frames hE hX hown hK hh dX1_frame_22 ?_
  refine zv_iconst hE dX1_frame_25 ?_
  refine zv_iadd hE dX1_frame_26 ?_
  refine pM_frames hE hX hown hK hh dX1_frame_27 (fun H locs hh => ?_)
  refine lv_aload_n hE.1 hE.2 dX1_frame_30 rfl (lv_at hl 0 rfl) ?_
  refine lv_aload_n hE.1 hE.2 dX1_frame_31 rfl (lv_at hl 0 rfl) ?_
  refine zv_iconst hE dX1_frame_32 ?_
  refine lv_iload_n hE.1 hE.2 dX1_frame_33 rfl (lv_at hl 1 rfl) ?_
  refine zv_imul hE dX1_frame_34 ?_
  refine mc_call (rest := [.ref (q 0)]) (As := [.int (zi_ (2 * i))]) hE hml hown hX hA hK hh (kM_find l dC dI q cA mt mq mw ms ml (up_ mf fr i) (up_ mx fr t1) mo mi mg th mn mh ev cu (fr + 1) oo (2 * i) (hw.1.1) (hw.1.2) (fun k x y => ⟨(hw.2.2.2 k x y).1, (hw.2.2.2 k x y).2.1⟩) (by exact ⟨by omega, by omega⟩)) (cwV 1 hX qM_find rfl rfl rfl (by decide +kernel) ⟨Nat.le_of_ble_eq_true rfl, Nat.le_of_ble_eq_true rfl⟩) rfl rfl hl.1 rfl (Nat.le_of_ble_eq_true rfl) dX1_frame_35 ⟨Nat.zero_le _, Nat.zero_le _⟩ rfl (fun z_2 u H locs hq_1 hh => ?_)
  obtain ⟨rfl, hq_1⟩ := hq_1
  obtain rfl := fd_s hw (by omega) (by omega) hq_1
  refine zv_iconst hE dX1_frame_38 ?_
  refine zv_iadd hE dX1_frame_39 ?_
  refine pM_cursor hE hX hown hK hh dX1_frame_40 (fun H locs hh => ?_)
  refine mc_retv (u := (mt, mq, mw, ms, ml, up_ mf fr i, up_ mx fr t1, mo, mi, mg, th, mn, mh, ev, (sa i) + 1, fr + 1, oo)) hE hr hlk hK hh dX1_frame_43 ?_
  rfl
set_option maxHeartbeats 400000 in
set_option maxRecDepth 100000 in
theorem kM_allWeights (l : Launch) (dC : Nat → ClassId) (dI : Nat → Nat → Nat) (q : Nat → Nat) (cA : Nat → ClassId) (mt mq mw ms ml mf mx mo mi mg : Int → Int) (th mn mh ev cu fr oo : Int) (sa : Int → Int) (hb : mt_ mt sa) (hmh : 0 ≤ mh ∧ mh ≤ 1000000000) (hmw : ∀ j : Int, 0 ≤ j → j < 600 → 0 ≤ mw j ∧ mw j ≤ 1000000000) : mc_l l (dC, dI) vwCl (tM_ cA) (wM_ q cA) yX1_allWeights wsX1_allWeights ({ frames := 0, cells := 0, slots := 0, locals := 0 }) (mt, mq, mw, ms, ml, mf, mx, mo, mi, mg, th, mn, mh, ev, cu, fr, oo) [.ref (q 0)] (fun (z : Int) (u : SM_) => u = (mt, mq, mw, ms, ml, mf, mx, mo, mi, mg, th, mn, mh, ev, cu, fr, oo) ∧ z = mh + sg_ (cw_ sa mw) 600) := by
  refine mc_l_of (cc := cX1_allWeights) (maxL := 4) (ret := (some .long)) (by decide) rfl (Nat.le_of_ble_eq_true rfl) ?_
  intro p e s m below meth c A ls hE hml hown hts hr hlk hA hK hh hl
  have hown : s.vm.findClass RX1 = some m.cls := hown
  have hX : ∀ w ∈ wsM_, w.before _ s = true := fun w h => hts w (List.mem_cons_of_mem _ h)
  have hl : lv_has ls 4 [(0, .ref (q 0))] := hl
  have loop_8 : ∀ (n : Nat) (i sm1 : Int), (0 ≤ i) → (i ≤ 600) → (600 - i < (n : Int)) → (sm1 = mh + sg_ (cw_ sa mw) i.toNat) → ∀ (H : Heap) (locs : List Loc), hp_ (dC, dI) vwCl A s.heap (wM_ q cA (mt, mq, mw, ms, ml, mf, mx, mo, mi, mg, th, mn, mh, ev, cu, fr, oo)) H locs → ∀ (ls : Array Slot), lv_has ls 4 [(3, .int (zi_ i)), (1, .long (zl_ sm1)), (0, .ref (q 0))] → W p l e ({ frames := 0, cells := 0, slots := 0, locals := 0 }) s m ([.ref (q 0)] : List Value).toArray below meth c H locs 0 0 (MQ below (mc_Ql (dC, dI) vwCl (tM_ cA) (wM_ q cA) (fun (z : Int) (u : SM_) => u = (mt, mq, mw, ms, ml, mf, mx, mo, mi, mg, th, mn, mh, ev, cu, fr, oo) ∧ z = mh + sg_ (cw_ sa mw) 600) A) ([.ref (q 0)] : List Value).toArray s 0 0 A) (F0 m 8 ls []) := by
    intro n
    induction n with
    | zero => intros; exfalso; omega
    | succ n ih =>
      intro i sm1 h0 h1 hn hsum H locs hh ls hl
      refine lv_iload_n hE.1 hE.2 dX1_allWeights_8 rfl (lv_at hl 0 rfl) ?_
      refine zv_sipush hE dX1_allWeights_9 (by decide) ?_
      refine zv_icmp_ge (tgt := 44) hE dX1_allWeights_12 (by decide) ⟨by omega, by omega⟩ ⟨by omega, by omega⟩ (fun hc_1 => ?_) (fun hc_1 => ?_)
      · refine lv_lload_n hE.1 hE.2 dX1_allWeights_44 rfl (lv_at hl 1 rfl) ?_
        refine mc_retl (u := (mt, mq, mw, ms, ml, mf, mx, mo, mi, mg, th, mn, mh, ev, cu, fr, oo)) hE hr hlk hK hh dX1_allWeights_45 ?_
        exact ⟨rfl, by rw [hsum, show i = 600 by omega]; rfl⟩
      · refine lv_lload_n hE.1 hE.2 dX1_allWeights_15 rfl (lv_at hl 1 rfl) ?_
        refine lv_aload_n hE.1 hE.2 dX1_allWeights_16 rfl (lv_at hl 2 rfl) ?_
        refine gM_there hE hX hown hK hh dX1_allWeights_17 ?_
        refine lv_iload_n hE.1 hE.2 dX1_allWeights_20 rfl (lv_at hl 0 rfl) ?_
        have hb1 := hb i (by omega) (by omega)
        have hw1 := hmw i (by omega) (by omega)
        refine rM_there hE hK hh ⟨by omega, by omega⟩ dX1_allWeights_21 ?_
        refine zv_if_eq (tgt := 35) hE dX1_allWeights_22 (by decide) ⟨by omega, by omega⟩ (fun hc_2 => ?_) (fun hc_2 => ?_)
        · refine lv_lconst (v := zl_ 0) hE.1 hE.2 dX1_allWeights_35 rfl ?_
          refine zv_ladd hE dX1_allWeights_36 ?_
          refine lv_lstore_n (lv' := [(1, .long (zl_ (sm1 + 0))), (3, .int (zi_ i)), (0, .ref (q 0))]) hE.1 hE.2 dX1_allWeights_37 rfl hl (by decide) rfl (fun ls hl => ?_)
          refine zv_iinc (lv' := [(3, .int (zi_ (i + 1))), (1, .long (zl_ (sm1 + 0))), (0, .ref (q 0))]) hE dX1_allWeights_38 hl (k := 1) rfl (by decide) rfl (fun ls hl => ?_)
          refine lv_goto (tgt := 8) hE.1 hE.2 dX1_allWeights_41 (by decide) ?_
          exact ih (i + 1) (sm1 + 0) (by omega) (by omega) (by omega) (by rw [sg_go _ h0, hsum]; unfold cw_; first | (rw [if_pos (by omega)]; omega) | (rw [if_neg (by omega)]; omega)) _ _ hh ls (lv_sub hl [0, 1, 2] rfl)
        · refine lv_aload_n hE.1 hE.2 dX1_allWeights_25 rfl (lv_at hl 2 rfl) ?_
          refine gM_weights hE hX hown hK hh dX1_allWeights_26 ?_
          refine lv_iload_n hE.1 hE.2 dX1_allWeights_29 rfl (lv_at hl 0 rfl) ?_
          refine rM_weights hE hK hh ⟨by omega, by omega⟩ dX1_allWeights_30 ?_
          refine zv_i2l hE ⟨by omega, by omega⟩ dX1_allWeights_31 ?_
          refine lv_goto (tgt := 36) hE.1 hE.2 dX1_allWeights_32 (by decide) ?_
          refine zv_ladd hE dX1_allWeights_36 ?_
          refine lv_lstore_n (lv' := [(1, .long (zl_ (sm1 + (mw i)))), (3, .int (zi_ i)), (0, .ref (q 0))]) hE.1 hE.2 dX1_allWeights_37 rfl hl (by decide) rfl (fun ls hl => ?_)
          refine zv_iinc (lv' := [(3, .int (zi_ (i + 1))), (1, .long (zl_ (sm1 + (mw i)))), (0, .ref (q 0))]) hE dX1_allWeights_38 hl (k := 1) rfl (by decide) rfl (fun ls hl => ?_)
          refine lv_goto (tgt := 8) hE.1 hE.2 dX1_allWeights_41 (by decide) ?_
          exact ih (i + 1) (sm1 + (mw i)) (by omega) (by omega) (by omega) (by rw [sg_go _ h0, hsum]; unfold cw_; first | (rw [if_pos (by omega)]; omega) | (rw [if_neg (by omega)]; omega)) _ _ hh ls (lv_sub hl [0, 1, 2] rfl)
  refine lv_aload_n hE.1 hE.2 dX1_allWeights_0 rfl (lv_at hl 0 rfl) ?_
  refine gM_whole hE hX hown hK hh dX1_allWeights_1 ?_
  refine zv_i2l hE ⟨by omega, by omega⟩ dX1_allWeights_4 ?_
  refine lv_lstore_n (lv' := [(1, .long (zl_ mh)), (0, .ref (q 0))]) hE.1 hE.2 dX1_allWeights_5 rfl hl (by decide) rfl (fun ls hl => ?_)
  refine zv_iconst hE dX1_allWeights_6 ?_
  refine lv_istore_n (lv' := [(3, .int (zi_ 0)), (1, .long (zl_ mh)), (0, .ref (q 0))]) hE.1 hE.2 dX1_allWeights_7 rfl hl (by decide) rfl (fun ls hl => ?_)
  exact loop_8 601 0 mh (by omega) (by omega) (by omega) (by show mh = mh + 0; omega) _ _ hh ls (lv_sub hl [0, 1, 2] rfl)
end
section
theorem fl_hit {P : Int → Prop} {v : Int → Int} {a p : Int} (h : a ≤ p) (hp : P p) : fl_ P v a (p + 1) (v p) := Or.inr ⟨p, h, by omega, hp, rfl, fun j x y => by omega⟩
theorem fl_miss {P : Int → Prop} {v : Int → Int} {a p z : Int} (hp : ¬ P p) (h : fl_ P v a p z) : fl_ P v a (p + 1) z := by
  rcases h with ⟨e, h⟩ | ⟨k, h0, h1, h2, h3, h4⟩
  · exact Or.inl ⟨e, fun k x y => if hq : k = p then (by rw [hq]; exact hp) else h k x (by omega)⟩
  · exact Or.inr ⟨k, h0, by omega, h2, h3, fun j x y => if hq : j = p then (by rw [hq]; exact hp) else h4 j x (by omega)⟩
theorem fl_0 {P : Int → Prop} {v : Int → Int} {a : Int} : fl_ P v a a (-1) := Or.inl ⟨rfl, fun k x y => by omega⟩
theorem ut_rng {sa ea ml : Int → Int} {ev i : Int} (hw : pw_ sa ea ml ev) (h0 : 0 ≤ i) (h1 : i < 600) (hs : sa i ≠ -1) : sa i < ut_ ea ev i ∧ ut_ ea ev i ≤ ev ∧ 0 ≤ sa i := by
  have w2 := hw.2.1 i h0 h1
  have w3 := hw.2.2.1 i h0 h1 hs
  unfold ut_
  by_cases hq : ea i = -1
  · rw [if_pos hq]; omega
  · rw [if_neg hq]; omega
theorem nfg_ {sa ea ml : Int → Int} {ev a b z : Int} (hw : pw_ sa ea ml ev) (ha : 0 ≤ a) (hb : b ≤ ev) (h1 : sa z < a ∨ b ≤ sa z) (h2 : ea z < a ∨ b ≤ ea z) : ¬ fg_ ml a b z := by
  intro ⟨k, k0, k1, k2⟩
  obtain ⟨c1, c2, c3, c4⟩ := hw.2.2.2 k (by omega) (by omega)
  rw [k2] at c3 c4
  by_cases he : ml k % 2 = 0
  · have := c3 he; omega
  · have := (c4 (by omega)).2; omega
theorem m4_one {sa ea ml mt mt2 g : Int → Int} {ev a b i : Int} (hw : pw_ sa ea ml ev) (ha : 0 ≤ a) (hb : b ≤ ev) (hm : mt_ mt sa) (hg : mg_ ml a b g) (h : m4_ g mt i mt2) (h0 : 0 ≤ i) (h1 : i < 600) (hi : g i = 1) : mt2 i = 1 := by
  rw [(h i h0 h1).2 (Or.inl (Int.le_refl i))]
  obtain ⟨-, g0⟩ := hg i h0 h1
  have hf : fg_ ml a b i := Classical.byContradiction (fun n => by have := g0 n; omega)
  obtain ⟨k, k0, k1, k2⟩ := hf
  obtain ⟨c1, c2, c3, c4⟩ := hw.2.2.2 k (by omega) (by omega)
  rw [k2] at c3 c4
  have hs : sa i ≠ -1 := by
    by_cases he : ml k % 2 = 0
    · have := c3 he; omega
    · exact (c4 (by omega)).1
  rcases hm i h0 h1 with t | t
  · exact t.1
  · exact absurd t.2 hs
theorem sg_put {g : Int → Int} {i v : Int} (h0 : 0 ≤ i) (h1 : i < 600) : sg_ (up_ g i v) 600 = sg_ g 600 - g i + v := by
  have := sg_up (g := up_ g i v) (h := g) (i := i) 600 h0 h1 (fun j _ _ hj => up_n hj)
  rw [up_s] at this
  exact this
/-- what holds of the reference's state between two calls; sa, ea: where each start and end stands -/
def im_ (sa ea mt mq mw ms ml mf mx mo mi : Int → Int) (mn mh ev cu fr oo : Int) : Prop :=
  pw_ sa ea ml ev ∧ mt_ mt sa ∧ mn = sg_ mt 600 ∧ mn < 600 ∧ (∃ j : Int, 0 ≤ j ∧ j < 600 ∧ sa j = -1) ∧ (1 ≤ fr ∧ fr ≤ 64 ∧ mf 0 = -1) ∧
  (∀ f : Int, 1 ≤ f → f < fr → 0 ≤ mf f ∧ mf f < 600 ∧ sa (mf f) ≠ -1 ∧ ea (mf f) ≠ -1) ∧ (∀ f : Int, 0 ≤ f → f < fr → mx f = 0 ∨ mx f = 1) ∧ (0 ≤ cu ∧ cu ≤ ev ∧ ev < 1200 ∧ 0 ≤ oo ∧ oo < 600) ∧
  (∀ t : Int, 0 ≤ t → t < oo → 0 ≤ mo t ∧ mo t < 600 ∧ 0 ≤ mi t ∧ mi t < 64) ∧ (∀ j : Int, 0 ≤ j → j < 600 → ms j = 0 ∨ ms j = 1) ∧ (∀ j : Int, 0 ≤ j → j < 600 → zr_ (mq j)) ∧
  (∀ j : Int, 0 ≤ j → j < 600 → 0 ≤ mw j ∧ mw j ≤ 1000000000) ∧ (0 ≤ mh ∧ mh ≤ 1000000000) ∧ (1 < fr → sa (mf (fr - 1)) < cu ∧ cu ≤ ea (mf (fr - 1)))
theorem im_f {sa ea mt mq mw ms ml mf mx mo mi : Int → Int} {mn mh ev cu fr oo : Int} (h : im_ sa ea mt mq mw ms ml mf mx mo mi mn mh ev cu fr oo) :
    (fr = 1 → mf (fr - 1) = -1) ∧ (1 < fr → 0 ≤ mf (fr - 1) ∧ mf (fr - 1) < 600 ∧ sa (mf (fr - 1)) ≠ -1) ∧ cu ≤ lm_ mf ea ev fr ∧ lm_ mf ea ev fr ≤ ev ∧ (0 < oo → 0 ≤ mi (oo - 1) ∧ mi (oo - 1) < 64) ∧ (0 < oo → 0 ≤ mo (oo - 1) ∧ mo (oo - 1) < 600) ∧ (mx (fr - 1) = 0 ∨ mx (fr - 1) = 1) ∧ (0 ≤ sg_ (cw_ sa mw) 600 ∧ sg_ (cw_ sa mw) 600 ≤ 600 * 1000000000) ∧ (1 < fr → lm_ mf ea ev fr = ea (mf (fr - 1))) ∧ (-1 ≤ mf (fr - 1) ∧ mf (fr - 1) < 600) := by
  obtain ⟨hw, hmt, hmn, hmn2, hfree, ⟨hf1, hf2, hm9⟩, hmf, hmx, ⟨hc0, hc3, hev, ho1, ho2⟩, hmo, hms, hmq, hmw, hmh, hl9⟩ := h
  have hT := sg_rng (g := cw_ sa mw) (c := 1000000000) (by omega) 600 (by omega) (by omega) (fun j x y => by
    unfold cw_
    have := hmw j x y
    by_cases hq : sa j = -1
    · rw [if_pos hq]; omega
    · rw [if_neg hq]; omega)
  have b1 := hmx (fr - 1) (by omega) (by omega)
  have b2 : 0 < oo → 0 ≤ mi (oo - 1) ∧ mi (oo - 1) < 64 := fun h => (hmo (oo - 1) (by omega) (by omega)).2.2
  have b3 : 0 < oo → 0 ≤ mo (oo - 1) ∧ mo (oo - 1) < 600 := fun h => ⟨(hmo (oo - 1) (by omega) (by omega)).1, (hmo (oo - 1) (by omega) (by omega)).2.1⟩
  by_cases h1 : fr = 1
  · have e1 : fr - 1 = 0 := by omega
    have e2 : lm_ mf ea ev fr = ev := by unfold lm_; rw [e1, if_pos hm9]
    rw [e2]
    refine ⟨fun _ => by rw [e1]; exact hm9, fun h => by omega, hc3, by omega, b2, b3, b1, hT, fun h => by omega, by rw [e1, hm9]; omega⟩
  · obtain ⟨c1, c2, c3, c4⟩ := hmf (fr - 1) (by omega) (by omega)
    have c5 := hl9 (by omega)
    have c6 := hw.2.2.1 _ c1 c2 c3
    have e2 : lm_ mf ea ev fr = ea (mf (fr - 1)) := by unfold lm_; rw [if_neg (by omega)]
    rw [e2]
    exact ⟨fun h => absurd h h1, fun _ => ⟨c1, c2, c3⟩, c5.2, by omega, b2, b3, b1, hT, fun _ => rfl, by omega⟩
end
section
set_option maxHeartbeats 400000 in
set_option maxRecDepth 100000 in
theorem kM_erase (l : Launch) (dC : Nat → ClassId) (dI : Nat → Nat → Nat) (q : Nat → Nat) (cA : Nat → ClassId) (mt mq mw ms ml mf mx mo mi mg : Int → Int) (th mn mh ev cu fr oo : Int) (a1 b1 : Int) (sa ea : Int → Int) (hw : pw_ sa ea ml ev) (hmt : mt_ mt sa) (hmn : mn = sg_ mt 600) (ha0 : 0 ≤ a1) (hab : a1 ≤ b1) (hbe : b1 ≤ ev) (hc0 : 0 ≤ cu) (hc1 : cu ≤ ev) : mc_v l (dC, dI) vwCl (tM_ cA) (wM_ q cA) yX1_erase wsX1_erase ({ frames := 0, cells := 0, slots := 0, locals := 0 }) (mt, mq, mw, ms, ml, mf, mx, mo, mi, mg, th, mn, mh, ev, cu, fr, oo) [.ref (q 0), .int (zi_ a1), .int (zi_ b1)] (fun (u : SM_) => ∃ (ml2 mg2 mt2 : Int → Int) (mn2 : Int), er_ sa ea ml ev a1 b1 (es_ sa ml a1 b1) (ee_ ea ml a1 b1) ml2 ∧ mt_ mt2 (es_ sa ml a1 b1) ∧ mn2 = sg_ mt2 600 ∧ u = (mt2, mq, mw, ms, ml2, mf, mx, mo, mi, mg2, th, mn2, mh, rz_ (gp_ ml a1 b1) ev, rz_ (gp_ ml a1 b1) cu, fr, oo)) := by
  refine mc_v_of (cc := cX1_erase) (maxL := 6) (ret := none) (by decide) rfl (Nat.le_of_ble_eq_true rfl) ?_
  intro p e s m below meth c A ls hE hml hown hts hr hlk hA hK hh hl
  have hown : s.vm.findClass RX1 = some m.cls := hown
  have hX : ∀ w ∈ wsM_, w.before _ s = true := fun w h => hts w (List.mem_cons_of_mem _ h)
  have hl : lv_has ls 6 [(0, .ref (q 0)), (1, .int (zi_ a1)), (2, .int (zi_ b1))] := hl
  have w1 := hw.1
  have loop_140 : ∀ (n : Nat) (i lf cu2 mn2 : Int) (mg1 ml2 mt2 : Int → Int), (0 ≤ i) → (i ≤ 600) → (600 - i < (n : Int)) → (mg_ ml a1 b1 mg1) → (m3_ ml ev cu a1 b1 ev ml2 cu2) → (lf = rz_ (gp_ ml a1 b1) ev) → (m4_ mg1 mt i mt2) → (mn2 = sg_ mt2 600) → ∀ (H : Heap) (locs : List Loc), hp_ (dC, dI) vwCl A s.heap (wM_ q cA (mt2, mq, mw, ms, ml2, mf, mx, mo, mi, mg1, th, mn2, mh, lf, cu2, fr, oo)) H locs → ∀ (ls : Array Slot), lv_has ls 6 [(5, .int (zi_ i)), (0, .ref (q 0))] → W p l e ({ frames := 0, cells := 0, slots := 0, locals := 0 }) s m ([.ref (q 0), .int (zi_ a1), .int (zi_ b1)] : List Value).toArray below meth c H locs 0 0 (MQ below (mc_Qv (dC, dI) vwCl (tM_ cA) (wM_ q cA) (fun (u : SM_) => ∃ (ml2 mg2 mt2 : Int → Int) (mn2 : Int), er_ sa ea ml ev a1 b1 (es_ sa ml a1 b1) (ee_ ea ml a1 b1) ml2 ∧ mt_ mt2 (es_ sa ml a1 b1) ∧ mn2 = sg_ mt2 600 ∧ u = (mt2, mq, mw, ms, ml2, mf, mx, mo, mi, mg2, th, mn2, mh, rz_ (gp_ ml a1 b1) ev, rz_ (gp_ ml a1 b1) cu, fr, oo)) A) ([.ref (q 0), .int (zi_ a1), .int (zi_ b1)] : List Value).toArray s 0 0 A) (F0 m 140 ls []) := by
    intro n
    induction n with
    | zero => intros; exfalso; omega
    | succ n ih =>
      intro i lf cu2 mn2 mg1 ml2 mt2 h0 h1 hn hmg hm3 hlf hm4 hmn2 H locs hh ls hl
      refine lv_iload hE.1 hE.2 dX1_erase_140 (lv_at hl 0 rfl) ?_
      refine zv_sipush hE dX1_erase_142 (by decide) ?_
      refine zv_icmp_ge (tgt := 182) hE dX1_erase_145 (by decide) ⟨by omega, by omega⟩ ⟨by omega, by omega⟩ (fun hc_1 => ?_) (fun hc_1 => ?_)
      · refine mc_retv (u := (mt2, mq, mw, ms, ml2, mf, mx, mo, mi, mg1, th, mn2, mh, lf, cu2, fr, oo)) hE hr hlk hK hh dX1_erase_182 ?_
        have hi6 : i = 600 := by omega
        rw [hi6] at hm4
        exact ⟨ml2, mg1, mt2, mn2, es_er hm3.2.1, m4_end hw hbe ha0 hmt hmg hm4, hmn2, by rw [hlf, hm3.2.2.2 hc1]⟩
      · refine lv_aload_n hE.1 hE.2 dX1_erase_148 rfl (lv_at hl 1 rfl) ?_
        refine gM_goes hE hX hown hK hh dX1_erase_149 ?_
        refine lv_iload hE.1 hE.2 dX1_erase_152 (lv_at hl 0 rfl) ?_
        have hx3 := hmg i (by omega) (by omega)
        have hx5 : mg1 i = 0 ∨ mg1 i = 1 := by
          rcases Classical.em (fg_ ml a1 b1 i) with t | t
          · exact Or.inr (hx3.1 t)
          · exact Or.inl (hx3.2 t)
        refine rM_goes hE hK hh ⟨by omega, by omega⟩ dX1_erase_154 ?_
        refine zv_if_eq (tgt := 176) hE dX1_erase_155 (by decide) ⟨by omega, by omega⟩ (fun hc_2 => ?_) (fun hc_2 => ?_)
        · refine zv_iinc (lv' := [(5, .int (zi_ (i + 1))), (0, .ref (q 0))]) hE dX1_erase_176 hl (k := 0) rfl (by decide) rfl (fun ls hl => ?_)
          refine lv_goto (tgt := 140) hE.1 hE.2 dX1_erase_179 (by decide) ?_
          exact ih (i + 1) lf cu2 mn2 mg1 ml2 mt2 (by omega) (by omega) (by omega) hmg hm3 hlf (by first | exact m4_skip hm4 (by omega) | exact m4_put hm4 (by omega)) (by first | exact hmn2 | (rw [sg_put h0 (by omega), m4_one hw ha0 hbe hmt hmg hm4 h0 (by omega) (by omega), hmn2]; omega)) _ _ hh ls (lv_sub hl [0, 1] rfl)
        · refine lv_aload_n hE.1 hE.2 dX1_erase_158 rfl (lv_at hl 1 rfl) ?_
          refine gM_there hE hX hown hK hh dX1_erase_159 ?_
          refine lv_iload hE.1 hE.2 dX1_erase_162 (lv_at hl 0 rfl) ?_
          refine zv_iconst hE dX1_erase_164 ?_
          refine sM_there hE hK hh ⟨by omega, by omega⟩ (by first | exact Or.inl rfl | exact Or.inr rfl | assumption) dX1_erase_165 (fun H locs hh => ?_)
          refine lv_aload_n hE.1 hE.2 dX1_erase_166 rfl (lv_at hl 1 rfl) ?_
          refine lv_dup hE.1 hE.2 dX1_erase_167 rfl ?_
          refine gM_many hE hX hown hK hh dX1_erase_168 ?_
          refine zv_iconst hE dX1_erase_171 ?_
          refine zv_isub hE dX1_erase_172 ?_
          refine pM_many hE hX hown hK hh dX1_erase_173 (fun H locs hh => ?_)
          refine zv_iinc (lv' := [(5, .int (zi_ (i + 1))), (0, .ref (q 0))]) hE dX1_erase_176 hl (k := 0) rfl (by decide) rfl (fun ls hl => ?_)
          refine lv_goto (tgt := 140) hE.1 hE.2 dX1_erase_179 (by decide) ?_
          exact ih (i + 1) lf cu2 (mn2 - 1) mg1 ml2 (up_ mt2 i 0) (by omega) (by omega) (by omega) hmg hm3 hlf (by first | exact m4_skip hm4 (by omega) | exact m4_put hm4 (by omega)) (by first | exact hmn2 | (rw [sg_put h0 (by omega), m4_one hw ha0 hbe hmt hmg hm4 h0 (by omega) (by omega), hmn2]; omega)) _ _ hh ls (lv_sub hl [0, 1] rfl)
  have loop_60 : ∀ (n : Nat) (pl lf cu2 : Int) (mg1 ml2 : Int → Int), (0 ≤ pl) → (pl ≤ ev) → (ev - pl < (n : Int)) → (mg_ ml a1 b1 mg1) → (m3_ ml ev cu a1 b1 pl ml2 cu2) → (lf = rz_ (gp_ ml a1 b1) pl) → ∀ (H : Heap) (locs : List Loc), hp_ (dC, dI) vwCl A s.heap (wM_ q cA (mt, mq, mw, ms, ml2, mf, mx, mo, mi, mg1, th, mn, mh, ev, cu2, fr, oo)) H locs → ∀ (ls : Array Slot), lv_has ls 6 [(5, .int (zi_ pl)), (4, .int (zi_ cu)), (3, .int (zi_ lf)), (0, .ref (q 0))] → W p l e ({ frames := 0, cells := 0, slots := 0, locals := 0 }) s m ([.ref (q 0), .int (zi_ a1), .int (zi_ b1)] : List Value).toArray below meth c H locs 0 0 (MQ below (mc_Qv (dC, dI) vwCl (tM_ cA) (wM_ q cA) (fun (u : SM_) => ∃ (ml2 mg2 mt2 : Int → Int) (mn2 : Int), er_ sa ea ml ev a1 b1 (es_ sa ml a1 b1) (ee_ ea ml a1 b1) ml2 ∧ mt_ mt2 (es_ sa ml a1 b1) ∧ mn2 = sg_ mt2 600 ∧ u = (mt2, mq, mw, ms, ml2, mf, mx, mo, mi, mg2, th, mn2, mh, rz_ (gp_ ml a1 b1) ev, rz_ (gp_ ml a1 b1) cu, fr, oo)) A) ([.ref (q 0), .int (zi_ a1), .int (zi_ b1)] : List Value).toArray s 0 0 A) (F0 m 60 ls []) := by
    intro n
    induction n with
    | zero => intros; exfalso; omega
    | succ n ih =>
      intro pl lf cu2 mg1 ml2 g0 g1 hn hmg hm3 hlf H locs hh ls hl
      refine lv_iload hE.1 hE.2 dX1_erase_60 (lv_at hl 0 rfl) ?_
      refine lv_aload_n hE.1 hE.2 dX1_erase_62 rfl (lv_at hl 3 rfl) ?_
      refine gM_events hE hX hown hK hh dX1_erase_63 ?_
      refine zv_icmp_ge (tgt := 132) hE dX1_erase_66 (by decide) ⟨by omega, by omega⟩ ⟨by omega, by omega⟩ (fun hc_3 => ?_) (fun hc_3 => ?_)
      · refine lv_aload_n hE.1 hE.2 dX1_erase_132 rfl (lv_at hl 3 rfl) ?_
        refine lv_iload_n hE.1 hE.2 dX1_erase_133 rfl (lv_at hl 2 rfl) ?_
        refine pM_events hE hX hown hK hh dX1_erase_134 (fun H locs hh => ?_)
        refine zv_iconst hE dX1_erase_137 ?_
        refine lv_istore (lv' := [(5, .int (zi_ 0)), (4, .int (zi_ cu)), (3, .int (zi_ lf)), (0, .ref (q 0))]) hE.1 hE.2 dX1_erase_138 hl (by decide) rfl (fun ls hl => ?_)
        exact loop_140 601 0 lf cu2 mn mg1 ml2 mt (by omega) (by omega) (by omega) hmg ((show pl = ev by omega) ▸ hm3) ((show pl = ev by omega) ▸ hlf) (fun j x y => ⟨fun z => by omega, fun _ => rfl⟩) hmn _ _ hh ls (lv_sub hl [0, 3] rfl)
      · refine lv_aload_n hE.1 hE.2 dX1_erase_69 rfl (lv_at hl 3 rfl) ?_
        refine gM_goes hE hX hown hK hh dX1_erase_70 ?_
        refine lv_aload_n hE.1 hE.2 dX1_erase_73 rfl (lv_at hl 3 rfl) ?_
        refine gM_line hE hX hown hK hh dX1_erase_74 ?_
        refine lv_iload hE.1 hE.2 dX1_erase_77 (lv_at hl 0 rfl) ?_
        have hx1 := hm3.1 pl (by omega) (by omega)
        have hx2 := hw.2.2.2 pl (by omega) (by omega)
        have hx3 := hmg (ml2 pl / 2) (by omega) (by omega)
        have hx4 : (mg1 (ml2 pl / 2) = 0 ∧ ¬ gp_ ml a1 b1 pl) ∨ (mg1 (ml2 pl / 2) = 1 ∧ gp_ ml a1 b1 pl) := by
          rw [hx1] at hx3 ⊢
          rcases Classical.em (gp_ ml a1 b1 pl) with t | t
          · exact Or.inr ⟨hx3.1 t, t⟩
          · exact Or.inl ⟨hx3.2 t, t⟩
        have hgo : mg1 (ml2 pl / 2) ≠ 0 → gp_ ml a1 b1 pl := fun h => by
          rcases hx4 with t | t
          · exact absurd t.1 h
          · exact t.2
        have hst : mg1 (ml2 pl / 2) = 0 → ¬ gp_ ml a1 b1 pl := fun h => by
          rcases hx4 with t | t
          · exact t.2
          · omega
        have hr0 := rz_nn (gp_ ml a1 b1) g0
        have hx5 : mg1 (ml2 pl / 2) = 0 ∨ mg1 (ml2 pl / 2) = 1 := by omega
        refine rM_line hE hK hh ⟨by omega, by omega⟩ dX1_erase_79 ?_
        refine zv_iconst hE dX1_erase_80 ?_
        refine zv_half hE ⟨by omega, by omega⟩ dX1_erase_81 ?_
        refine rM_goes hE hK hh ⟨by omega, by omega⟩ dX1_erase_82 ?_
        refine zv_if_eq (tgt := 110) hE dX1_erase_83 (by decide) ⟨by omega, by omega⟩ (fun hc_4 => ?_) (fun hc_4 => ?_)
        · refine lv_aload_n hE.1 hE.2 dX1_erase_110 rfl (lv_at hl 3 rfl) ?_
          refine gM_line hE hX hown hK hh dX1_erase_111 ?_
          refine lv_iload_n hE.1 hE.2 dX1_erase_114 rfl (lv_at hl 2 rfl) ?_
          refine lv_aload_n hE.1 hE.2 dX1_erase_115 rfl (lv_at hl 3 rfl) ?_
          refine gM_line hE hX hown hK hh dX1_erase_116 ?_
          refine lv_iload hE.1 hE.2 dX1_erase_119 (lv_at hl 0 rfl) ?_
          refine rM_line hE hK hh ⟨by omega, by omega⟩ dX1_erase_121 ?_
          refine sM_line hE hK hh ⟨by omega, by omega⟩ dX1_erase_122 (fun H locs hh => ?_)
          refine zv_iinc (lv' := [(3, .int (zi_ (lf + 1))), (5, .int (zi_ pl)), (4, .int (zi_ cu)), (0, .ref (q 0))]) hE dX1_erase_123 hl (k := 2) rfl (by decide) rfl (fun ls hl => ?_)
          refine zv_iinc (lv' := [(5, .int (zi_ (pl + 1))), (3, .int (zi_ (lf + 1))), (4, .int (zi_ cu)), (0, .ref (q 0))]) hE dX1_erase_126 hl (k := 1) rfl (by decide) rfl (fun ls hl => ?_)
          refine lv_goto (tgt := 60) hE.1 hE.2 dX1_erase_129 (by decide) ?_
          exact ih (pl + 1) (lf + 1) cu2 mg1 (up_ ml2 lf (ml2 pl)) (by omega) (by omega) (by omega) hmg (by first | (have t := (m3_go hm3 g0 hc0 (hgo (by omega))).1; rw [if_pos (by omega)] at t; exact t) | (have t := (m3_go hm3 g0 hc0 (hgo (by omega))).1; rw [if_neg (by omega)] at t; rw [Int.sub_zero]; exact t) | (rw [hlf]; exact (m3_keep hm3 g0 (by omega) hc0 (hst (by omega))).1)) (by first | (have t := (m3_go hm3 g0 hc0 (hgo (by omega))).2; omega) | (have t := (m3_keep hm3 g0 (by omega) hc0 (hst (by omega))).2; omega)) _ _ hh ls (lv_sub hl [0, 2, 1, 3] rfl)
        · refine lv_aload_n hE.1 hE.2 dX1_erase_86 rfl (lv_at hl 3 rfl) ?_
          refine lv_dup hE.1 hE.2 dX1_erase_87 rfl ?_
          refine gM_cursor hE hX hown hK hh dX1_erase_88 ?_
          refine lv_iload hE.1 hE.2 dX1_erase_91 (lv_at hl 0 rfl) ?_
          refine lv_iload hE.1 hE.2 dX1_erase_93 (lv_at hl 1 rfl) ?_
          refine zv_icmp_ge (tgt := 102) hE dX1_erase_95 (by decide) ⟨by omega, by omega⟩ ⟨by omega, by omega⟩ (fun hc_5 => ?_) (fun hc_5 => ?_)
          · refine zv_iconst hE dX1_erase_102 ?_
            refine zv_isub hE dX1_erase_103 ?_
            refine pM_cursor hE hX hown hK hh dX1_erase_104 (fun H locs hh => ?_)
            refine lv_goto (tgt := 126) hE.1 hE.2 dX1_erase_107 (by decide) ?_
            refine zv_iinc (lv' := [(5, .int (zi_ (pl + 1))), (4, .int (zi_ cu)), (3, .int (zi_ lf)), (0, .ref (q 0))]) hE dX1_erase_126 hl (k := 0) rfl (by decide) rfl (fun ls hl => ?_)
            refine lv_goto (tgt := 60) hE.1 hE.2 dX1_erase_129 (by decide) ?_
            exact ih (pl + 1) lf (cu2 - 0) mg1 ml2 (by omega) (by omega) (by omega) hmg (by first | (have t := (m3_go hm3 g0 hc0 (hgo (by omega))).1; rw [if_pos (by omega)] at t; exact t) | (have t := (m3_go hm3 g0 hc0 (hgo (by omega))).1; rw [if_neg (by omega)] at t; rw [Int.sub_zero]; exact t) | (rw [hlf]; exact (m3_keep hm3 g0 (by omega) hc0 (hst (by omega))).1)) (by first | (have t := (m3_go hm3 g0 hc0 (hgo (by omega))).2; omega) | (have t := (m3_keep hm3 g0 (by omega) hc0 (hst (by omega))).2; omega)) _ _ hh ls (lv_sub hl [0, 1, 2, 3] rfl)
          · refine zv_iconst hE dX1_erase_98 ?_
            refine lv_goto (tgt := 103) hE.1 hE.2 dX1_erase_99 (by decide) ?_
            refine zv_isub hE dX1_erase_103 ?_
            refine pM_cursor hE hX hown hK hh dX1_erase_104 (fun H locs hh => ?_)
            refine lv_goto (tgt := 126) hE.1 hE.2 dX1_erase_107 (by decide) ?_
            refine zv_iinc (lv' := [(5, .int (zi_ (pl + 1))), (4, .int (zi_ cu)), (3, .int (zi_ lf)), (0, .ref (q 0))]) hE dX1_erase_126 hl (k := 0) rfl (by decide) rfl (fun ls hl => ?_)
            refine lv_goto (tgt := 60) hE.1 hE.2 dX1_erase_129 (by decide) ?_
            exact ih (pl + 1) lf (cu2 - 1) mg1 ml2 (by omega) (by omega) (by omega) hmg (by first | (have t := (m3_go hm3 g0 hc0 (hgo (by omega))).1; rw [if_pos (by omega)] at t; exact t) | (have t := (m3_go hm3 g0 hc0 (hgo (by omega))).1; rw [if_neg (by omega)] at t; rw [Int.sub_zero]; exact t) | (rw [hlf]; exact (m3_keep hm3 g0 (by omega) hc0 (hst (by omega))).1)) (by first | (have t := (m3_go hm3 g0 hc0 (hgo (by omega))).2; omega) | (have t := (m3_keep hm3 g0 (by omega) hc0 (hst (by omega))).2; omega)) _ _ hh ls (lv_sub hl [0, 1, 2, 3] rfl)
  have loop_24 : ∀ (n : Nat) (pl : Int) (mg1 : Int → Int), (a1 ≤ pl) → (pl ≤ b1) → (b1 - pl < (n : Int)) → (mg_ ml a1 pl mg1) → ∀ (H : Heap) (locs : List Loc), hp_ (dC, dI) vwCl A s.heap (wM_ q cA (mt, mq, mw, ms, ml, mf, mx, mo, mi, mg1, th, mn, mh, ev, cu, fr, oo)) H locs → ∀ (ls : Array Slot), lv_has ls 6 [(3, .int (zi_ pl)), (1, .int (zi_ a1)), (2, .int (zi_ b1)), (0, .ref (q 0))] → W p l e ({ frames := 0, cells := 0, slots := 0, locals := 0 }) s m ([.ref (q 0), .int (zi_ a1), .int (zi_ b1)] : List Value).toArray below meth c H locs 0 0 (MQ below (mc_Qv (dC, dI) vwCl (tM_ cA) (wM_ q cA) (fun (u : SM_) => ∃ (ml2 mg2 mt2 : Int → Int) (mn2 : Int), er_ sa ea ml ev a1 b1 (es_ sa ml a1 b1) (ee_ ea ml a1 b1) ml2 ∧ mt_ mt2 (es_ sa ml a1 b1) ∧ mn2 = sg_ mt2 600 ∧ u = (mt2, mq, mw, ms, ml2, mf, mx, mo, mi, mg2, th, mn2, mh, rz_ (gp_ ml a1 b1) ev, rz_ (gp_ ml a1 b1) cu, fr, oo)) A) ([.ref (q 0), .int (zi_ a1), .int (zi_ b1)] : List Value).toArray s 0 0 A) (F0 m 24 ls []) := by
    intro n
    induction n with
    | zero => intros; exfalso; omega
    | succ n ih =>
      intro pl mg1 g0 g1 hn hmg H locs hh ls hl
      refine lv_iload_n hE.1 hE.2 dX1_erase_24 rfl (lv_at hl 0 rfl) ?_
      refine lv_iload_n hE.1 hE.2 dX1_erase_25 rfl (lv_at hl 2 rfl) ?_
      refine zv_icmp_ge (tgt := 49) hE dX1_erase_26 (by decide) ⟨by omega, by omega⟩ ⟨by omega, by omega⟩ (fun hc_6 => ?_) (fun hc_6 => ?_)
      · refine zv_iconst hE dX1_erase_49 ?_
        refine lv_istore_n (lv' := [(3, .int (zi_ 0)), (1, .int (zi_ a1)), (2, .int (zi_ b1)), (0, .ref (q 0))]) hE.1 hE.2 dX1_erase_50 rfl hl (by decide) rfl (fun ls hl => ?_)
        refine lv_aload_n hE.1 hE.2 dX1_erase_51 rfl (lv_at hl 3 rfl) ?_
        refine gM_cursor hE hX hown hK hh dX1_erase_52 ?_
        refine lv_istore (lv' := [(4, .int (zi_ cu)), (3, .int (zi_ 0)), (1, .int (zi_ a1)), (2, .int (zi_ b1)), (0, .ref (q 0))]) hE.1 hE.2 dX1_erase_55 hl (by decide) rfl (fun ls hl => ?_)
        refine zv_iconst hE dX1_erase_57 ?_
        refine lv_istore (lv' := [(5, .int (zi_ 0)), (4, .int (zi_ cu)), (3, .int (zi_ 0)), (1, .int (zi_ a1)), (2, .int (zi_ b1)), (0, .ref (q 0))]) hE.1 hE.2 dX1_erase_58 hl (by decide) rfl (fun ls hl => ?_)
        exact loop_60 1300 0 0 cu mg1 ml (by omega) (by omega) (by omega) ((show pl = b1 by omega) ▸ hmg) (m3_0 hc0) (rz_0 _).symm _ _ hh ls (lv_sub hl [0, 1, 2, 5] rfl)
      · refine lv_aload_n hE.1 hE.2 dX1_erase_29 rfl (lv_at hl 3 rfl) ?_
        refine gM_goes hE hX hown hK hh dX1_erase_30 ?_
        refine lv_aload_n hE.1 hE.2 dX1_erase_33 rfl (lv_at hl 3 rfl) ?_
        refine gM_line hE hX hown hK hh dX1_erase_34 ?_
        refine lv_iload_n hE.1 hE.2 dX1_erase_37 rfl (lv_at hl 0 rfl) ?_
        have hx2 := hw.2.2.2 pl (by omega) (by omega)
        refine rM_line hE hK hh ⟨by omega, by omega⟩ dX1_erase_38 ?_
        refine zv_iconst hE dX1_erase_39 ?_
        refine zv_half hE ⟨by omega, by omega⟩ dX1_erase_40 ?_
        refine zv_iconst hE dX1_erase_41 ?_
        refine sM_goes hE hK hh ⟨by omega, by omega⟩ (by first | exact Or.inl rfl | exact Or.inr rfl | assumption) dX1_erase_42 (fun H locs hh => ?_)
        refine zv_iinc (lv' := [(3, .int (zi_ (pl + 1))), (1, .int (zi_ a1)), (2, .int (zi_ b1)), (0, .ref (q 0))]) hE dX1_erase_43 hl (k := 0) rfl (by decide) rfl (fun ls hl => ?_)
        refine lv_goto (tgt := 24) hE.1 hE.2 dX1_erase_46 (by decide) ?_
        exact ih (pl + 1) (up_ mg1 ((ml pl) / 2) 1) (by omega) (by omega) (by omega) (mg_s hmg g0) _ _ hh ls (lv_sub hl [0, 1, 2, 3] rfl)
  have loop_2 : ∀ (n : Nat) (i : Int) (mg1 : Int → Int), (0 ≤ i) → (i ≤ 600) → (600 - i < (n : Int)) → (∀ j : Int, 0 ≤ j → j < i → mg1 j = 0) → ∀ (H : Heap) (locs : List Loc), hp_ (dC, dI) vwCl A s.heap (wM_ q cA (mt, mq, mw, ms, ml, mf, mx, mo, mi, mg1, th, mn, mh, ev, cu, fr, oo)) H locs → ∀ (ls : Array Slot), lv_has ls 6 [(3, .int (zi_ i)), (1, .int (zi_ a1)), (2, .int (zi_ b1)), (0, .ref (q 0))] → W p l e ({ frames := 0, cells := 0, slots := 0, locals := 0 }) s m ([.ref (q 0), .int (zi_ a1), .int (zi_ b1)] : List Value).toArray below meth c H locs 0 0 (MQ below (mc_Qv (dC, dI) vwCl (tM_ cA) (wM_ q cA) (fun (u : SM_) => ∃ (ml2 mg2 mt2 : Int → Int) (mn2 : Int), er_ sa ea ml ev a1 b1 (es_ sa ml a1 b1) (ee_ ea ml a1 b1) ml2 ∧ mt_ mt2 (es_ sa ml a1 b1) ∧ mn2 = sg_ mt2 600 ∧ u = (mt2, mq, mw, ms, ml2, mf, mx, mo, mi, mg2, th, mn2, mh, rz_ (gp_ ml a1 b1) ev, rz_ (gp_ ml a1 b1) cu, fr, oo)) A) ([.ref (q 0), .int (zi_ a1), .int (zi_ b1)] : List Value).toArray s 0 0 A) (F0 m 2 ls []) := by
    intro n
    induction n with
    | zero => intros; exfalso; omega
    | succ n ih =>
      intro i mg1 h0 h1 hn hj H locs hh ls hl
      refine lv_iload_n hE.1 hE.2 dX1_erase_2 rfl (lv_at hl 0 rfl) ?_
      refine zv_sipush hE dX1_erase_3 (by decide) ?_
      refine zv_icmp_ge (tgt := 22) hE dX1_erase_6 (by decide) ⟨by omega, by omega⟩ ⟨by omega, by omega⟩ (fun hc_7 => ?_) (fun hc_7 => ?_)
      · refine lv_iload_n hE.1 hE.2 dX1_erase_22 rfl (lv_at hl 1 rfl) ?_
        refine lv_istore_n (lv' := [(3, .int (zi_ a1)), (1, .int (zi_ a1)), (2, .int (zi_ b1)), (0, .ref (q 0))]) hE.1 hE.2 dX1_erase_23 rfl hl (by decide) rfl (fun ls hl => ?_)
        exact loop_24 1300 a1 mg1 (by omega) (by omega) (by omega) (mg_0 (fun j x y => hj j x (by omega))) _ _ hh ls (lv_sub hl [0, 1, 2, 3] rfl)
      · refine lv_aload_n hE.1 hE.2 dX1_erase_9 rfl (lv_at hl 3 rfl) ?_
        refine gM_goes hE hX hown hK hh dX1_erase_10 ?_
        refine lv_iload_n hE.1 hE.2 dX1_erase_13 rfl (lv_at hl 0 rfl) ?_
        refine zv_iconst hE dX1_erase_14 ?_
        refine sM_goes hE hK hh ⟨by omega, by omega⟩ (by first | exact Or.inl rfl | exact Or.inr rfl | assumption) dX1_erase_15 (fun H locs hh => ?_)
        refine zv_iinc (lv' := [(3, .int (zi_ (i + 1))), (1, .int (zi_ a1)), (2, .int (zi_ b1)), (0, .ref (q 0))]) hE dX1_erase_16 hl (k := 0) rfl (by decide) rfl (fun ls hl => ?_)
        refine lv_goto (tgt := 2) hE.1 hE.2 dX1_erase_19 (by decide) ?_
        exact ih (i + 1) (up_ mg1 i 0) (by omega) (by omega) (by omega) (fun j x y => if hq : j = i then (by rw [hq]; exact up_s _ _ _) else (by rw [up_n hq]; exact hj j x (by omega))) _ _ hh ls (lv_sub hl [0, 1, 2, 3] rfl)
  refine zv_iconst hE dX1_erase_0 ?_
  refine lv_istore_n (lv' := [(3, .int (zi_ 0)), (0, .ref (q 0)), (1, .int (zi_ a1)), (2, .int (zi_ b1))]) hE.1 hE.2 dX1_erase_1 rfl hl (by decide) rfl (fun ls hl => ?_)
  exact loop_2 601 0 mg (by omega) (by omega) (by omega) (fun j x y => by omega) _ _ hh ls (lv_sub hl [0, 2, 3, 1] rfl)
set_option maxHeartbeats 400000 in
set_option maxRecDepth 100000 in
theorem kM_around (l : Launch) (dC : Nat → ClassId) (dI : Nat → Nat → Nat) (q : Nat → Nat) (cA : Nat → ClassId) (mt mq mw ms ml mf mx mo mi mg : Int → Int) (th mn mh ev cu fr oo : Int) (i : Int) (sa ea : Int → Int) (hw : pw_ sa ea ml ev) (h0 : 0 ≤ i) (h1 : i < 600) (hs : sa i ≠ -1) : mc_i l (dC, dI) vwCl (tM_ cA) (wM_ q cA) yX1_around wsX1_around ({ frames := 2, cells := 0, slots := 0, locals := 80 }) (mt, mq, mw, ms, ml, mf, mx, mo, mi, mg, th, mn, mh, ev, cu, fr, oo) [.ref (q 0), .int (zi_ i)] (fun (z : Int) (u : SM_) => u = (mt, mq, mw, ms, ml, mf, mx, mo, mi, mg, th, mn, mh, ev, cu, fr, oo) ∧ fl_ (fun k => ml k % 2 = 0 ∧ sa i < ut_ ea ev (ml k / 2)) (fun k => ml k / 2) 0 (sa i) z) := by
  refine mc_i_of (cc := cX1_around) (maxL := 5) (ret := (some .int)) (by decide) rfl (Nat.le_of_ble_eq_true rfl) ?_
  intro p e s m below meth c A ls hE hml hown hts hr hlk hA hK hh hl
  have hown : s.vm.findClass RX1 = some m.cls := hown
  have hX : ∀ w ∈ wsM_, w.before _ s = true := fun w h => hts w (List.mem_cons_of_mem _ h)
  have hl : lv_has ls 5 [(0, .ref (q 0)), (1, .int (zi_ i))] := hl
  have w1 := hw.1
  have w2 := hw.2.1 i h0 h1
  have w3 := hw.2.2.1 i h0 h1 hs
  have loop_13 : ∀ (n : Nat) (pl fd : Int), (0 ≤ pl) → (pl ≤ sa i) → (sa i - pl < (n : Int)) → (fl_ (fun k => ml k % 2 = 0 ∧ sa i < ut_ ea ev (ml k / 2)) (fun k => ml k / 2) 0 pl fd) → ∀ (H : Heap) (locs : List Loc), hp_ (dC, dI) vwCl A s.heap (wM_ q cA (mt, mq, mw, ms, ml, mf, mx, mo, mi, mg, th, mn, mh, ev, cu, fr, oo)) H locs → ∀ (ls : Array Slot), lv_has ls 5 [(4, .int (zi_ pl)), (3, .int (zi_ fd)), (2, .int (zi_ (sa i))), (1, .int (zi_ i)), (0, .ref (q 0))] → W p l e ({ frames := 2, cells := 0, slots := 0, locals := 80 }) s m ([.ref (q 0), .int (zi_ i)] : List Value).toArray below meth c H locs 0 0 (MQ below (mc_Qi (dC, dI) vwCl (tM_ cA) (wM_ q cA) (fun (z : Int) (u : SM_) => u = (mt, mq, mw, ms, ml, mf, mx, mo, mi, mg, th, mn, mh, ev, cu, fr, oo) ∧ fl_ (fun k => ml k % 2 = 0 ∧ sa i < ut_ ea ev (ml k / 2)) (fun k => ml k / 2) 0 (sa i) z) A) ([.ref (q 0), .int (zi_ i)] : List Value).toArray s 0 0 A) (F0 m 13 ls []) := by
    intro n
    induction n with
    | zero => intros; exfalso; omega
    | succ n ih =>
      intro pl fd g0 g1 hn hfl H locs hh ls hl
      refine lv_iload hE.1 hE.2 dX1_around_13 (lv_at hl 0 rfl) ?_
      refine lv_iload_n hE.1 hE.2 dX1_around_15 rfl (lv_at hl 2 rfl) ?_
      refine zv_icmp_ge (tgt := 68) hE dX1_around_16 (by decide) ⟨by omega, by omega⟩ ⟨by omega, by omega⟩ (fun hc_1 => ?_) (fun hc_1 => ?_)
      · refine lv_iload_n hE.1 hE.2 dX1_around_68 rfl (lv_at hl 1 rfl) ?_
        refine mc_ret (u := (mt, mq, mw, ms, ml, mf, mx, mo, mi, mg, th, mn, mh, ev, cu, fr, oo)) hE hr hlk hK hh dX1_around_69 ?_
        exact ⟨rfl, (show pl = sa i by omega) ▸ hfl⟩
      · refine lv_aload_n hE.1 hE.2 dX1_around_19 rfl (lv_at hl 4 rfl) ?_
        refine gM_line hE hX hown hK hh dX1_around_20 ?_
        refine lv_iload hE.1 hE.2 dX1_around_23 (lv_at hl 0 rfl) ?_
        have hx2 := hw.2.2.2 pl (by omega) (by omega)
        have hx6 : sa (ml pl / 2) ≠ -1 := by
          have t1 := hx2.2.2.1
          have t2 := hx2.2.2.2
          omega
        have hx7 := ut_rng hw (i := ml pl / 2) (by omega) (by omega) hx6
        refine rM_line hE hK hh ⟨by omega, by omega⟩ dX1_around_25 ?_
        refine zv_iconst hE dX1_around_26 ?_
        refine zv_rem2 hE ⟨by omega, by omega⟩ dX1_around_27 ?_
        refine zv_if_ne (tgt := 60) hE dX1_around_28 (by decide) ⟨by omega, by omega⟩ (fun hc_2 => ?_) (fun hc_2 => ?_)
        · refine lv_iload_n hE.1 hE.2 dX1_around_60 rfl (lv_at hl 1 rfl) ?_
          refine lv_istore_n (lv' := [(3, .int (zi_ fd)), (4, .int (zi_ pl)), (2, .int (zi_ (sa i))), (1, .int (zi_ i)), (0, .ref (q 0))]) hE.1 hE.2 dX1_around_61 rfl hl (by decide) rfl (fun ls hl => ?_)
          refine zv_iinc (lv' := [(4, .int (zi_ (pl + 1))), (3, .int (zi_ fd)), (2, .int (zi_ (sa i))), (1, .int (zi_ i)), (0, .ref (q 0))]) hE dX1_around_62 hl (k := 1) rfl (by decide) rfl (fun ls hl => ?_)
          refine lv_goto (tgt := 13) hE.1 hE.2 dX1_around_65 (by decide) ?_
          exact ih (pl + 1) fd (by omega) (by omega) (by omega) (by first | exact fl_hit (P := (fun k => ml k % 2 = 0 ∧ sa i < ut_ ea ev (ml k / 2))) (v := (fun k => ml k / 2)) g0 ⟨by omega, by omega⟩ | exact fl_miss (fun t => by have t1 := t.1; have t2 := t.2; omega) hfl) _ _ hh ls (lv_sub hl [0, 1, 2, 3, 4] rfl)
        · refine lv_aload_n hE.1 hE.2 dX1_around_31 rfl (lv_at hl 4 rfl) ?_
          refine lv_aload_n hE.1 hE.2 dX1_around_32 rfl (lv_at hl 4 rfl) ?_
          refine gM_line hE hX hown hK hh dX1_around_33 ?_
          refine lv_iload hE.1 hE.2 dX1_around_36 (lv_at hl 0 rfl) ?_
          refine rM_line hE hK hh ⟨by omega, by omega⟩ dX1_around_38 ?_
          refine zv_iconst hE dX1_around_39 ?_
          refine zv_half hE ⟨by omega, by omega⟩ dX1_around_40 ?_
          refine mc_call (rest := []) (As := [.int (zi_ ((ml pl) / 2))]) hE hml hown hX hA hK hh (kM_endOf l dC dI q cA mt mq mw ms ml mf mx mo mi mg th mn mh ev cu fr oo ((ml pl) / 2) sa ea hw (by omega) (by omega) (by first | assumption | omega)) (cwV 1 hX qM_endOf rfl rfl rfl (by decide +kernel) ⟨Nat.le_of_ble_eq_true rfl, Nat.le_of_ble_eq_true rfl⟩) rfl rfl hl.1 rfl (Nat.le_of_ble_eq_true rfl) dX1_around_41 ⟨Nat.zero_le _, Nat.zero_le _⟩ rfl (fun z_4 u H locs hq_3 hh => ?_)
          obtain ⟨rfl, rfl⟩ := hq_3
          refine lv_iload_n hE.1 hE.2 dX1_around_44 rfl (lv_at hl 2 rfl) ?_
          refine zv_icmp_le (tgt := 60) hE dX1_around_45 (by decide) ⟨by omega, by omega⟩ ⟨by omega, by omega⟩ (fun hc_5 => ?_) (fun hc_5 => ?_)
          · refine lv_iload_n hE.1 hE.2 dX1_around_60 rfl (lv_at hl 1 rfl) ?_
            refine lv_istore_n (lv' := [(3, .int (zi_ fd)), (4, .int (zi_ pl)), (2, .int (zi_ (sa i))), (1, .int (zi_ i)), (0, .ref (q 0))]) hE.1 hE.2 dX1_around_61 rfl hl (by decide) rfl (fun ls hl => ?_)
            refine zv_iinc (lv' := [(4, .int (zi_ (pl + 1))), (3, .int (zi_ fd)), (2, .int (zi_ (sa i))), (1, .int (zi_ i)), (0, .ref (q 0))]) hE dX1_around_62 hl (k := 1) rfl (by decide) rfl (fun ls hl => ?_)
            refine lv_goto (tgt := 13) hE.1 hE.2 dX1_around_65 (by decide) ?_
            exact ih (pl + 1) fd (by omega) (by omega) (by omega) (by first | exact fl_hit (P := (fun k => ml k % 2 = 0 ∧ sa i < ut_ ea ev (ml k / 2))) (v := (fun k => ml k / 2)) g0 ⟨by omega, by omega⟩ | exact fl_miss (fun t => by have t1 := t.1; have t2 := t.2; omega) hfl) _ _ hh ls (lv_sub hl [0, 1, 2, 3, 4] rfl)
          · refine lv_aload_n hE.1 hE.2 dX1_around_48 rfl (lv_at hl 4 rfl) ?_
            refine gM_line hE hX hown hK hh dX1_around_49 ?_
            refine lv_iload hE.1 hE.2 dX1_around_52 (lv_at hl 0 rfl) ?_
            refine rM_line hE hK hh ⟨by omega, by omega⟩ dX1_around_54 ?_
            refine zv_iconst hE dX1_around_55 ?_
            refine zv_half hE ⟨by omega, by omega⟩ dX1_around_56 ?_
            refine lv_goto (tgt := 61) hE.1 hE.2 dX1_around_57 (by decide) ?_
            refine lv_istore_n (lv' := [(3, .int (zi_ ((ml pl) / 2))), (4, .int (zi_ pl)), (2, .int (zi_ (sa i))), (1, .int (zi_ i)), (0, .ref (q 0))]) hE.1 hE.2 dX1_around_61 rfl hl (by decide) rfl (fun ls hl => ?_)
            refine zv_iinc (lv' := [(4, .int (zi_ (pl + 1))), (3, .int (zi_ ((ml pl) / 2))), (2, .int (zi_ (sa i))), (1, .int (zi_ i)), (0, .ref (q 0))]) hE dX1_around_62 hl (k := 1) rfl (by decide) rfl (fun ls hl => ?_)
            refine lv_goto (tgt := 13) hE.1 hE.2 dX1_around_65 (by decide) ?_
            exact ih (pl + 1) ((ml pl) / 2) (by omega) (by omega) (by omega) (by first | exact fl_hit (P := (fun k => ml k % 2 = 0 ∧ sa i < ut_ ea ev (ml k / 2))) (v := (fun k => ml k / 2)) g0 ⟨by omega, by omega⟩ | exact fl_miss (fun t => by have t1 := t.1; have t2 := t.2; omega) hfl) _ _ hh ls (lv_sub hl [0, 1, 2, 3, 4] rfl)
  refine lv_aload_n hE.1 hE.2 dX1_around_0 rfl (lv_at hl 0 rfl) ?_
  refine zv_iconst hE dX1_around_1 ?_
  refine lv_iload_n hE.1 hE.2 dX1_around_2 rfl (lv_at hl 1 rfl) ?_
  refine zv_imul hE dX1_around_3 ?_
  refine mc_call (rest := []) (As := [.int (zi_ (2 * i))]) hE hml hown hX hA hK hh (kM_find l dC dI q cA mt mq mw ms ml mf mx mo mi mg th mn mh ev cu fr oo (2 * i) (hw.1.1) (hw.1.2) (fun k x y => ⟨(hw.2.2.2 k x y).1, (hw.2.2.2 k x y).2.1⟩) (by exact ⟨by omega, by omega⟩)) (cwV 1 hX qM_find rfl rfl rfl (by decide +kernel) ⟨Nat.le_of_ble_eq_true rfl, Nat.le_of_ble_eq_true rfl⟩) rfl rfl hl.1 rfl (Nat.le_of_ble_eq_true rfl) dX1_around_4 ⟨Nat.zero_le _, Nat.zero_le _⟩ rfl (fun z_7 u H locs hq_6 hh => ?_)
  obtain ⟨rfl, hq_6⟩ := hq_6
  obtain rfl := fd_s hw (by omega) (by omega) hq_6
  refine lv_istore_n (lv' := [(2, .int (zi_ (sa i))), (0, .ref (q 0)), (1, .int (zi_ i))]) hE.1 hE.2 dX1_around_7 rfl hl (by decide) rfl (fun ls hl => ?_)
  refine zv_iconst hE dX1_around_8 ?_
  refine lv_istore_n (lv' := [(3, .int (zi_ (-1))), (2, .int (zi_ (sa i))), (0, .ref (q 0)), (1, .int (zi_ i))]) hE.1 hE.2 dX1_around_9 rfl hl (by decide) rfl (fun ls hl => ?_)
  refine zv_iconst hE dX1_around_10 ?_
  refine lv_istore (lv' := [(4, .int (zi_ 0)), (3, .int (zi_ (-1))), (2, .int (zi_ (sa i))), (0, .ref (q 0)), (1, .int (zi_ i))]) hE.1 hE.2 dX1_around_11 hl (by decide) rfl (fun ls hl => ?_)
  exact loop_13 1300 0 (-1) (by omega) (by omega) (by omega) fl_0 _ _ hh ls (lv_sub hl [0, 1, 2, 4, 3] rfl)
set_option maxHeartbeats 400000 in
set_option maxRecDepth 100000 in
theorem kM_sumOf (l : Launch) (dC : Nat → ClassId) (dI : Nat → Nat → Nat) (q : Nat → Nat) (cA : Nat → ClassId) (mt mq mw ms ml mf mx mo mi mg : Int → Int) (th mn mh ev cu fr oo : Int) (i : Int) (sa ea : Int → Int) (hw : pw_ sa ea ml ev) (h0 : 0 ≤ i) (h1 : i < 600) (hs : sa i ≠ -1) : mc_i l (dC, dI) vwCl (tM_ cA) (wM_ q cA) yX1_sumOf wsX1_sumOf ({ frames := 2, cells := 0, slots := 0, locals := 80 }) (mt, mq, mw, ms, ml, mf, mx, mo, mi, mg, th, mn, mh, ev, cu, fr, oo) [.ref (q 0), .int (zi_ i)] (fun (z : Int) (u : SM_) => u = (mt, mq, mw, ms, ml, mf, mx, mo, mi, mg, th, mn, mh, ev, cu, fr, oo) ∧ z = mw i + st_ (we_ ml mw) (sa i + 1) ((ut_ ea ev i) - (sa i + 1)).toNat) := by
  refine mc_i_of (cc := cX1_sumOf) (maxL := 4) (ret := (some .int)) (by decide) rfl (Nat.le_of_ble_eq_true rfl) ?_
  intro p e s m below meth c A ls hE hml hown hts hr hlk hA hK hh hl
  have hown : s.vm.findClass RX1 = some m.cls := hown
  have hX : ∀ w ∈ wsM_, w.before _ s = true := fun w h => hts w (List.mem_cons_of_mem _ h)
  have hl : lv_has ls 4 [(0, .ref (q 0)), (1, .int (zi_ i))] := hl
  have w1 := hw.1
  have w2 := hw.2.1 i h0 h1
  have w3 := hw.2.2.1 i h0 h1 hs
  have w5 := ut_rng hw h0 h1 hs
  have loop_17 : ∀ (n : Nat) (pl sm1 : Int), (sa i + 1 ≤ pl) → (pl ≤ (ut_ ea ev i)) → ((ut_ ea ev i) - pl < (n : Int)) → (sm1 = mw i + st_ (we_ ml mw) (sa i + 1) (pl - (sa i + 1)).toNat) → ∀ (H : Heap) (locs : List Loc), hp_ (dC, dI) vwCl A s.heap (wM_ q cA (mt, mq, mw, ms, ml, mf, mx, mo, mi, mg, th, mn, mh, ev, cu, fr, oo)) H locs → ∀ (ls : Array Slot), lv_has ls 4 [(3, .int (zi_ pl)), (2, .int (zi_ sm1)), (1, .int (zi_ i)), (0, .ref (q 0))] → W p l e ({ frames := 2, cells := 0, slots := 0, locals := 80 }) s m ([.ref (q 0), .int (zi_ i)] : List Value).toArray below meth c H locs 0 0 (MQ below (mc_Qi (dC, dI) vwCl (tM_ cA) (wM_ q cA) (fun (z : Int) (u : SM_) => u = (mt, mq, mw, ms, ml, mf, mx, mo, mi, mg, th, mn, mh, ev, cu, fr, oo) ∧ z = mw i + st_ (we_ ml mw) (sa i + 1) ((ut_ ea ev i) - (sa i + 1)).toNat) A) ([.ref (q 0), .int (zi_ i)] : List Value).toArray s 0 0 A) (F0 m 17 ls []) := by
    intro n
    induction n with
    | zero => intros; exfalso; omega
    | succ n ih =>
      intro pl sm1 g0 g1 hn hsum H locs hh ls hl
      refine lv_iload_n hE.1 hE.2 dX1_sumOf_17 rfl (lv_at hl 0 rfl) ?_
      refine lv_aload_n hE.1 hE.2 dX1_sumOf_18 rfl (lv_at hl 3 rfl) ?_
      refine lv_iload_n hE.1 hE.2 dX1_sumOf_19 rfl (lv_at hl 2 rfl) ?_
      refine mc_call (rest := [.int (zi_ pl)]) (As := [.int (zi_ i)]) hE hml hown hX hA hK hh (kM_endOf l dC dI q cA mt mq mw ms ml mf mx mo mi mg th mn mh ev cu fr oo i sa ea hw (by omega) (by omega) (by first | assumption | omega)) (cwV 1 hX qM_endOf rfl rfl rfl (by decide +kernel) ⟨Nat.le_of_ble_eq_true rfl, Nat.le_of_ble_eq_true rfl⟩) rfl rfl hl.1 rfl (Nat.le_of_ble_eq_true rfl) dX1_sumOf_20 ⟨Nat.zero_le _, Nat.zero_le _⟩ rfl (fun z_2 u H locs hq_1 hh => ?_)
      obtain ⟨rfl, rfl⟩ := hq_1
      refine zv_icmp_ge (tgt := 63) hE dX1_sumOf_23 (by decide) ⟨by omega, by omega⟩ ⟨by omega, by omega⟩ (fun hc_3 => ?_) (fun hc_3 => ?_)
      · refine lv_iload_n hE.1 hE.2 dX1_sumOf_63 rfl (lv_at hl 1 rfl) ?_
        refine mc_ret (u := (mt, mq, mw, ms, ml, mf, mx, mo, mi, mg, th, mn, mh, ev, cu, fr, oo)) hE hr hlk hK hh dX1_sumOf_64 ?_
        exact ⟨rfl, by rw [hsum, show pl = ut_ ea ev i by omega]⟩
      · refine lv_iload_n hE.1 hE.2 dX1_sumOf_26 rfl (lv_at hl 1 rfl) ?_
        refine lv_aload_n hE.1 hE.2 dX1_sumOf_27 rfl (lv_at hl 3 rfl) ?_
        refine gM_line hE hX hown hK hh dX1_sumOf_28 ?_
        refine lv_iload_n hE.1 hE.2 dX1_sumOf_31 rfl (lv_at hl 0 rfl) ?_
        have hx2 := hw.2.2.2 pl (by omega) (by omega)
        refine rM_line hE hK hh ⟨by omega, by omega⟩ dX1_sumOf_32 ?_
        refine zv_iconst hE dX1_sumOf_33 ?_
        refine zv_rem2 hE ⟨by omega, by omega⟩ dX1_sumOf_34 ?_
        refine zv_if_ne (tgt := 54) hE dX1_sumOf_35 (by decide) ⟨by omega, by omega⟩ (fun hc_4 => ?_) (fun hc_4 => ?_)
        · refine zv_iconst hE dX1_sumOf_54 ?_
          refine zv_iadd hE dX1_sumOf_55 ?_
          refine lv_istore_n (lv' := [(2, .int (zi_ (sm1 + 0))), (3, .int (zi_ pl)), (1, .int (zi_ i)), (0, .ref (q 0))]) hE.1 hE.2 dX1_sumOf_56 rfl hl (by decide) rfl (fun ls hl => ?_)
          refine zv_iinc (lv' := [(3, .int (zi_ (pl + 1))), (2, .int (zi_ (sm1 + 0))), (1, .int (zi_ i)), (0, .ref (q 0))]) hE dX1_sumOf_57 hl (k := 1) rfl (by decide) rfl (fun ls hl => ?_)
          refine lv_goto (tgt := 17) hE.1 hE.2 dX1_sumOf_60 (by decide) ?_
          exact ih (pl + 1) (sm1 + 0) (by omega) (by omega) (by omega) (by rw [st_go g0, hsum]; unfold we_; first | (rw [if_pos (by omega)]; omega) | (rw [if_neg (by omega)]; omega)) _ _ hh ls (lv_sub hl [0, 1, 2, 3] rfl)
        · refine lv_aload_n hE.1 hE.2 dX1_sumOf_38 rfl (lv_at hl 3 rfl) ?_
          refine gM_weights hE hX hown hK hh dX1_sumOf_39 ?_
          refine lv_aload_n hE.1 hE.2 dX1_sumOf_42 rfl (lv_at hl 3 rfl) ?_
          refine gM_line hE hX hown hK hh dX1_sumOf_43 ?_
          refine lv_iload_n hE.1 hE.2 dX1_sumOf_46 rfl (lv_at hl 0 rfl) ?_
          refine rM_line hE hK hh ⟨by omega, by omega⟩ dX1_sumOf_47 ?_
          refine zv_iconst hE dX1_sumOf_48 ?_
          refine zv_half hE ⟨by omega, by omega⟩ dX1_sumOf_49 ?_
          refine rM_weights hE hK hh ⟨by omega, by omega⟩ dX1_sumOf_50 ?_
          refine lv_goto (tgt := 55) hE.1 hE.2 dX1_sumOf_51 (by decide) ?_
          refine zv_iadd hE dX1_sumOf_55 ?_
          refine lv_istore_n (lv' := [(2, .int (zi_ (sm1 + (mw ((ml pl) / 2))))), (3, .int (zi_ pl)), (1, .int (zi_ i)), (0, .ref (q 0))]) hE.1 hE.2 dX1_sumOf_56 rfl hl (by decide) rfl (fun ls hl => ?_)
          refine zv_iinc (lv' := [(3, .int (zi_ (pl + 1))), (2, .int (zi_ (sm1 + (mw ((ml pl) / 2))))), (1, .int (zi_ i)), (0, .ref (q 0))]) hE dX1_sumOf_57 hl (k := 1) rfl (by decide) rfl (fun ls hl => ?_)
          refine lv_goto (tgt := 17) hE.1 hE.2 dX1_sumOf_60 (by decide) ?_
          exact ih (pl + 1) (sm1 + (mw ((ml pl) / 2))) (by omega) (by omega) (by omega) (by rw [st_go g0, hsum]; unfold we_; first | (rw [if_pos (by omega)]; omega) | (rw [if_neg (by omega)]; omega)) _ _ hh ls (lv_sub hl [0, 1, 2, 3] rfl)
  refine lv_aload_n hE.1 hE.2 dX1_sumOf_0 rfl (lv_at hl 0 rfl) ?_
  refine gM_weights hE hX hown hK hh dX1_sumOf_1 ?_
  refine lv_iload_n hE.1 hE.2 dX1_sumOf_4 rfl (lv_at hl 1 rfl) ?_
  refine rM_weights hE hK hh ⟨by omega, by omega⟩ dX1_sumOf_5 ?_
  refine lv_istore_n (lv' := [(2, .int (zi_ (mw i))), (0, .ref (q 0)), (1, .int (zi_ i))]) hE.1 hE.2 dX1_sumOf_6 rfl hl (by decide) rfl (fun ls hl => ?_)
  refine lv_aload_n hE.1 hE.2 dX1_sumOf_7 rfl (lv_at hl 1 rfl) ?_
  refine zv_iconst hE dX1_sumOf_8 ?_
  refine lv_iload_n hE.1 hE.2 dX1_sumOf_9 rfl (lv_at hl 2 rfl) ?_
  refine zv_imul hE dX1_sumOf_10 ?_
  refine mc_call (rest := []) (As := [.int (zi_ (2 * i))]) hE hml hown hX hA hK hh (kM_find l dC dI q cA mt mq mw ms ml mf mx mo mi mg th mn mh ev cu fr oo (2 * i) (hw.1.1) (hw.1.2) (fun k x y => ⟨(hw.2.2.2 k x y).1, (hw.2.2.2 k x y).2.1⟩) (by exact ⟨by omega, by omega⟩)) (cwV 1 hX qM_find rfl rfl rfl (by decide +kernel) ⟨Nat.le_of_ble_eq_true rfl, Nat.le_of_ble_eq_true rfl⟩) rfl rfl hl.1 rfl (Nat.le_of_ble_eq_true rfl) dX1_sumOf_11 ⟨Nat.zero_le _, Nat.zero_le _⟩ rfl (fun z_6 u H locs hq_5 hh => ?_)
  obtain ⟨rfl, hq_5⟩ := hq_5
  obtain rfl := fd_s hw (by omega) (by omega) hq_5
  refine zv_iconst hE dX1_sumOf_14 ?_
  refine zv_iadd hE dX1_sumOf_15 ?_
  refine lv_istore_n (lv' := [(3, .int (zi_ ((sa i) + 1))), (2, .int (zi_ (mw i))), (0, .ref (q 0)), (1, .int (zi_ i))]) hE.1 hE.2 dX1_sumOf_16 rfl hl (by decide) rfl (fun ls hl => ?_)
  exact loop_17 1300 (sa i + 1) (mw i) (by omega) (by omega) (by omega) (by rw [show (sa i + 1 - (sa i + 1)).toNat = 0 by omega]; show mw i = mw i + 0; omega) _ _ hh ls (lv_sub hl [0, 1, 3, 2] rfl)
end
section
set_option maxHeartbeats 400000 in
set_option maxRecDepth 100000 in
theorem kM_begin (l : Launch) (dC : Nat → ClassId) (dI : Nat → Nat → Nat) (q : Nat → Nat) (cA : Nat → ClassId) (mt mq mw ms ml mf mx mo mi mg : Int → Int) (th mn mh ev cu fr oo : Int) (key : Int) (sa ea : Int → Int) (hI : im_ sa ea mt mq mw ms ml mf mx mo mi mn mh ev cu fr oo) (hk9 : zr_ key) : mc_i l (dC, dI) vwCl (tM_ cA) (wM_ q cA) yX1_begin wsX1_begin ({ frames := 3, cells := 0, slots := 0, locals := 140 }) (mt, mq, mw, ms, ml, mf, mx, mo, mi, mg, th, mn, mh, ev, cu, fr, oo) [.ref (q 0), .int (zi_ key)] (fun (z : Int) (u : SM_) => (z = -1 ∧ u = (mt, mq, mw, ms, ml, mf, mx, mo, mi, mg, 0, mn, mh, ev, cu, fr, oo) ∧ mx (fr - 1) = 1) ∨ (0 ≤ z ∧ z < 600 ∧ sa z = -1 ∧ (∀ j : Int, 0 ≤ j → j < z → sa j ≠ -1) ∧ mx (fr - 1) = 0 ∧ ∃ ml1 : Int → Int, mp_ ml ev cu ml1 ∧ u = (up_ mt z 1, up_ mq z key, up_ mw z 0, up_ ms z 0, up_ ml1 cu (2 * z), mf, mx, up_ mo oo z, up_ mi oo (fr - 1), mg, 0, mn + 1, mh, ev + 1, cu + 1, fr, oo + 1))) := by
  refine mc_i_of (cc := cX1_begin) (maxL := 3) (ret := (some .int)) (by decide) rfl (Nat.le_of_ble_eq_true rfl) ?_
  intro p e s m below meth c A ls hE hml hown hts hr hlk hA hK hh hl
  have hown : s.vm.findClass RX1 = some m.cls := hown
  have hX : ∀ w ∈ wsM_, w.before _ s = true := fun w h => hts w (List.mem_cons_of_mem _ h)
  have hl : lv_has ls 3 [(0, .ref (q 0)), (1, .int (zi_ key))] := hl
  obtain ⟨hm0, hm1, hc1, hc2, hmi, hmo1, hx1b, hT, hlm, hmr⟩ := im_f hI
  obtain ⟨hw, hmt, hmn, hmn2, ⟨j0, hj0, hj1, hj2⟩, ⟨hf1, hf2, hm9⟩, hmf, hmx, ⟨hc0, hc3, hev, ho0, ho2⟩, hmo, hms, hmq, hmw, hmh, hl9⟩ := hI
  have ho1 : oo ≤ 600 := by omega
  have hmn3 := sg_nn (g := mt) 600 (fun j x y => by have := hmt j x y; omega)
  have loop_31 : ∀ (n : Nat) (i : Int), (0 ≤ i) → (i ≤ j0) → (j0 - i < (n : Int)) → (∀ j : Int, 0 ≤ j → j < i → sa j ≠ -1) → (mx (fr - 1) = 0) → ∀ (H : Heap) (locs : List Loc), hp_ (dC, dI) vwCl A s.heap (wM_ q cA (mt, mq, mw, ms, ml, mf, mx, mo, mi, mg, 0, mn, mh, ev, cu, fr, oo)) H locs → ∀ (ls : Array Slot), lv_has ls 3 [(2, .int (zi_ i)), (1, .int (zi_ key)), (0, .ref (q 0))] → W p l e ({ frames := 3, cells := 0, slots := 0, locals := 140 }) s m ([.ref (q 0), .int (zi_ key)] : List Value).toArray below meth c H locs 0 0 (MQ below (mc_Qi (dC, dI) vwCl (tM_ cA) (wM_ q cA) (fun (z : Int) (u : SM_) => (z = -1 ∧ u = (mt, mq, mw, ms, ml, mf, mx, mo, mi, mg, 0, mn, mh, ev, cu, fr, oo) ∧ mx (fr - 1) = 1) ∨ (0 ≤ z ∧ z < 600 ∧ sa z = -1 ∧ (∀ j : Int, 0 ≤ j → j < z → sa j ≠ -1) ∧ mx (fr - 1) = 0 ∧ ∃ ml1 : Int → Int, mp_ ml ev cu ml1 ∧ u = (up_ mt z 1, up_ mq z key, up_ mw z 0, up_ ms z 0, up_ ml1 cu (2 * z), mf, mx, up_ mo oo z, up_ mi oo (fr - 1), mg, 0, mn + 1, mh, ev + 1, cu + 1, fr, oo + 1))) A) ([.ref (q 0), .int (zi_ key)] : List Value).toArray s 0 0 A) (F0 m 31 ls []) := by
    intro n
    induction n with
    | zero => intros; exfalso; omega
    | succ n ih =>
      intro i h0 h1 hn hj hx9 H locs hh ls hl
      have hb1 := hmt i h0 (by omega)
      have hb2 : mt i ≠ 0 → i ≠ j0 := fun t q => by
        rw [q] at hb1 t
        omega
      refine lv_aload_n hE.1 hE.2 dX1_begin_31 rfl (lv_at hl 2 rfl) ?_
      refine gM_there hE hX hown hK hh dX1_begin_32 ?_
      refine lv_iload_n hE.1 hE.2 dX1_begin_35 rfl (lv_at hl 0 rfl) ?_
      refine rM_there hE hK hh ⟨by omega, by omega⟩ dX1_begin_36 ?_
      refine zv_if_eq (tgt := 46) hE dX1_begin_37 (by decide) ⟨by omega, by omega⟩ (fun hc_1 => ?_) (fun hc_1 => ?_)
      · refine lv_aload_n hE.1 hE.2 dX1_begin_46 rfl (lv_at hl 2 rfl) ?_
        refine gM_there hE hX hown hK hh dX1_begin_47 ?_
        refine lv_iload_n hE.1 hE.2 dX1_begin_50 rfl (lv_at hl 0 rfl) ?_
        refine zv_iconst hE dX1_begin_51 ?_
        refine sM_there hE hK hh ⟨by omega, by omega⟩ (by first | exact Or.inl rfl | exact Or.inr rfl | assumption) dX1_begin_52 (fun H locs hh => ?_)
        refine lv_aload_n hE.1 hE.2 dX1_begin_53 rfl (lv_at hl 2 rfl) ?_
        refine gM_keys hE hX hown hK hh dX1_begin_54 ?_
        refine lv_iload_n hE.1 hE.2 dX1_begin_57 rfl (lv_at hl 0 rfl) ?_
        refine lv_iload_n hE.1 hE.2 dX1_begin_58 rfl (lv_at hl 1 rfl) ?_
        refine sM_keys hE hK hh ⟨by omega, by omega⟩ dX1_begin_59 (fun H locs hh => ?_)
        refine lv_aload_n hE.1 hE.2 dX1_begin_60 rfl (lv_at hl 2 rfl) ?_
        refine gM_weights hE hX hown hK hh dX1_begin_61 ?_
        refine lv_iload_n hE.1 hE.2 dX1_begin_64 rfl (lv_at hl 0 rfl) ?_
        refine zv_iconst hE dX1_begin_65 ?_
        refine sM_weights hE hK hh ⟨by omega, by omega⟩ dX1_begin_66 (fun H locs hh => ?_)
        refine lv_aload_n hE.1 hE.2 dX1_begin_67 rfl (lv_at hl 2 rfl) ?_
        refine gM_isStale hE hX hown hK hh dX1_begin_68 ?_
        refine lv_iload_n hE.1 hE.2 dX1_begin_71 rfl (lv_at hl 0 rfl) ?_
        refine zv_iconst hE dX1_begin_72 ?_
        refine sM_isStale hE hK hh ⟨by omega, by omega⟩ (by first | exact Or.inl rfl | exact Or.inr rfl | assumption) dX1_begin_73 (fun H locs hh => ?_)
        refine lv_aload_n hE.1 hE.2 dX1_begin_74 rfl (lv_at hl 2 rfl) ?_
        refine lv_dup hE.1 hE.2 dX1_begin_75 rfl ?_
        refine gM_many hE hX hown hK hh dX1_begin_76 ?_
        refine zv_iconst hE dX1_begin_79 ?_
        refine zv_iadd hE dX1_begin_80 ?_
        refine pM_many hE hX hown hK hh dX1_begin_81 (fun H locs hh => ?_)
        refine lv_aload_n hE.1 hE.2 dX1_begin_84 rfl (lv_at hl 2 rfl) ?_
        refine zv_iconst hE dX1_begin_85 ?_
        refine lv_iload_n hE.1 hE.2 dX1_begin_86 rfl (lv_at hl 0 rfl) ?_
        refine zv_imul hE dX1_begin_87 ?_
        refine mc_callv (rest := []) (As := [.int (zi_ (2 * i))]) hE hml hown hX hA hK hh (kM_put l dC dI q cA (up_ mt i 1) (up_ mq i key) (up_ mw i 0) (up_ ms i 0) ml mf mx mo mi mg 0 (mn + 1) mh ev cu fr oo (2 * i) (by omega) (by omega) (by omega)) (cwV 1 hX qM_put rfl rfl rfl (by decide +kernel) ⟨Nat.le_of_ble_eq_true rfl, Nat.le_of_ble_eq_true rfl⟩) rfl rfl hl.1 rfl (Nat.le_of_ble_eq_true rfl) dX1_begin_88 ⟨Nat.zero_le _, Nat.zero_le _⟩ rfl (fun u H locs hq_2 hh => ?_)
        obtain ⟨ml1, hmp, rfl⟩ := hq_2
        refine lv_aload_n hE.1 hE.2 dX1_begin_91 rfl (lv_at hl 2 rfl) ?_
        refine gM_open hE hX hown hK hh dX1_begin_92 ?_
        refine lv_aload_n hE.1 hE.2 dX1_begin_95 rfl (lv_at hl 2 rfl) ?_
        refine gM_opens hE hX hown hK hh dX1_begin_96 ?_
        refine lv_iload_n hE.1 hE.2 dX1_begin_99 rfl (lv_at hl 0 rfl) ?_
        refine sM_open hE hK hh ⟨by omega, by omega⟩ dX1_begin_100 (fun H locs hh => ?_)
        refine lv_aload_n hE.1 hE.2 dX1_begin_101 rfl (lv_at hl 2 rfl) ?_
        refine gM_openIn hE hX hown hK hh dX1_begin_102 ?_
        refine lv_aload_n hE.1 hE.2 dX1_begin_105 rfl (lv_at hl 2 rfl) ?_
        refine gM_opens hE hX hown hK hh dX1_begin_106 ?_
        refine lv_aload_n hE.1 hE.2 dX1_begin_109 rfl (lv_at hl 2 rfl) ?_
        refine mc_call (rest := [.int (zi_ oo), .ref (q 9)]) (As := []) hE hml hown hX hA hK hh (kM_last l dC dI q cA (up_ mt i 1) (up_ mq i key) (up_ mw i 0) (up_ ms i 0) (up_ ml1 cu (2 * i)) mf mx (up_ mo oo i) mi mg 0 (mn + 1) mh (ev + 1) (cu + 1) fr oo) (cwV 0 hX qM_last rfl rfl rfl (by decide +kernel) ⟨Nat.le_of_ble_eq_true rfl, Nat.le_of_ble_eq_true rfl⟩) rfl rfl hl.1 rfl (Nat.le_of_ble_eq_true rfl) dX1_begin_110 ⟨Nat.zero_le _, Nat.zero_le _⟩ rfl (fun z_5 u H locs hq_4 hh => ?_)
        obtain ⟨rfl, rfl⟩ := hq_4
        refine sM_openIn hE hK hh ⟨by omega, by omega⟩ dX1_begin_113 (fun H locs hh => ?_)
        refine lv_aload_n hE.1 hE.2 dX1_begin_114 rfl (lv_at hl 2 rfl) ?_
        refine lv_dup hE.1 hE.2 dX1_begin_115 rfl ?_
        refine gM_opens hE hX hown hK hh dX1_begin_116 ?_
        refine zv_iconst hE dX1_begin_119 ?_
        refine zv_iadd hE dX1_begin_120 ?_
        refine pM_opens hE hX hown hK hh dX1_begin_121 (fun H locs hh => ?_)
        refine lv_iload_n hE.1 hE.2 dX1_begin_124 rfl (lv_at hl 0 rfl) ?_
        refine mc_ret (u := (up_ mt i 1, up_ mq i key, up_ mw i 0, up_ ms i 0, up_ ml1 cu (2 * i), mf, mx, up_ mo oo i, up_ mi oo (fr - 1), mg, 0, mn + 1, mh, ev + 1, cu + 1, fr, oo + 1)) hE hr hlk hK hh dX1_begin_125 ?_
        first | exact Or.inl ⟨rfl, rfl, by omega⟩ | exact Or.inr ⟨by omega, by omega, by omega, hj, by omega, ml1, hmp, rfl⟩ | (exfalso; omega)
      · refine zv_iinc (lv' := [(2, .int (zi_ (i + 1))), (1, .int (zi_ key)), (0, .ref (q 0))]) hE dX1_begin_40 hl (k := 0) rfl (by decide) rfl (fun ls hl => ?_)
        refine lv_goto (tgt := 31) hE.1 hE.2 dX1_begin_43 (by decide) ?_
        exact ih (i + 1) (by omega) (by have := hb2 (by omega); omega) (by omega) (fun j x y => if hq : j = i then (by rw [hq]; omega) else hj j x (by omega)) hx9 _ _ hh ls (lv_sub hl [0, 1, 2] rfl)
  refine lv_aload_n hE.1 hE.2 dX1_begin_0 rfl (lv_at hl 0 rfl) ?_
  refine zv_iconst hE dX1_begin_1 ?_
  refine pM_thrown hE hX hown hK hh dX1_begin_2 (fun H locs hh => ?_)
  refine lv_aload_n hE.1 hE.2 dX1_begin_5 rfl (lv_at hl 0 rfl) ?_
  refine gM_many hE hX hown hK hh dX1_begin_6 ?_
  refine zv_sipush hE dX1_begin_9 (by decide) ?_
  refine zv_icmp_eq (tgt := 27) hE dX1_begin_12 (by decide) ⟨by omega, by omega⟩ ⟨by omega, by omega⟩ (fun hc_6 => ?_) (fun hc_6 => ?_)
  · refine zv_iconst hE dX1_begin_27 ?_
    refine mc_ret (u := (mt, mq, mw, ms, ml, mf, mx, mo, mi, mg, 0, mn, mh, ev, cu, fr, oo)) hE hr hlk hK hh dX1_begin_28 ?_
    first | exact Or.inl ⟨rfl, rfl, by omega⟩ | exact Or.inr ⟨by omega, by omega, by omega, hj, by omega, ml1, hmp, rfl⟩ | (exfalso; omega)
  · refine lv_aload_n hE.1 hE.2 dX1_begin_15 rfl (lv_at hl 0 rfl) ?_
    refine gM_taken hE hX hown hK hh dX1_begin_16 ?_
    refine lv_aload_n hE.1 hE.2 dX1_begin_19 rfl (lv_at hl 0 rfl) ?_
    refine mc_call (rest := [.ref (q 7)]) (As := []) hE hml hown hX hA hK hh (kM_last l dC dI q cA mt mq mw ms ml mf mx mo mi mg 0 mn mh ev cu fr oo) (cwV 0 hX qM_last rfl rfl rfl (by decide +kernel) ⟨Nat.le_of_ble_eq_true rfl, Nat.le_of_ble_eq_true rfl⟩) rfl rfl hl.1 rfl (Nat.le_of_ble_eq_true rfl) dX1_begin_20 ⟨Nat.zero_le _, Nat.zero_le _⟩ rfl (fun z_8 u H locs hq_7 hh => ?_)
    obtain ⟨rfl, rfl⟩ := hq_7
    refine rM_taken hE hK hh ⟨by omega, by omega⟩ dX1_begin_23 ?_
    refine zv_if_eq (tgt := 29) hE dX1_begin_24 (by decide) ⟨by omega, by omega⟩ (fun hc_9 => ?_) (fun hc_9 => ?_)
    · refine zv_iconst hE dX1_begin_29 ?_
      refine lv_istore_n (lv' := [(2, .int (zi_ 0)), (0, .ref (q 0)), (1, .int (zi_ key))]) hE.1 hE.2 dX1_begin_30 rfl hl (by decide) rfl (fun ls hl => ?_)
      exact loop_31 601 0 (by omega) (by omega) (by omega) (fun j x y => by omega) (by omega) _ _ hh ls (lv_sub hl [0, 2, 1] rfl)
    · refine zv_iconst hE dX1_begin_27 ?_
      refine mc_ret (u := (mt, mq, mw, ms, ml, mf, mx, mo, mi, mg, 0, mn, mh, ev, cu, fr, oo)) hE hr hlk hK hh dX1_begin_28 ?_
      first | exact Or.inl ⟨rfl, rfl, by omega⟩ | exact Or.inr ⟨by omega, by omega, by omega, hj, by omega, ml1, hmp, rfl⟩ | (exfalso; omega)
set_option maxHeartbeats 400000 in
set_option maxRecDepth 100000 in
theorem kM_end (l : Launch) (dC : Nat → ClassId) (dI : Nat → Nat → Nat) (q : Nat → Nat) (cA : Nat → ClassId) (mt mq mw ms ml mf mx mo mi mg : Int → Int) (th mn mh ev cu fr oo : Int) (sa ea : Int → Int) (hI : im_ sa ea mt mq mw ms ml mf mx mo mi mn mh ev cu fr oo) : mc_i l (dC, dI) vwCl (tM_ cA) (wM_ q cA) yX1_end wsX1_end ({ frames := 3, cells := 0, slots := 0, locals := 140 }) (mt, mq, mw, ms, ml, mf, mx, mo, mi, mg, th, mn, mh, ev, cu, fr, oo) [.ref (q 0)] (fun (z : Int) (u : SM_) => (z = -1 ∧ u = (mt, mq, mw, ms, ml, mf, mx, mo, mi, mg, 0, mn, mh, ev, cu, fr, oo) ∧ (oo ≤ 0 ∨ mi (oo - 1) ≠ fr - 1)) ∨ (0 < oo ∧ mi (oo - 1) = fr - 1 ∧ z = mo (oo - 1) ∧ ∃ ml1 : Int → Int, mp_ ml ev cu ml1 ∧ u = (mt, mq, mw, ms, up_ ml1 cu (2 * z + 1), mf, mx, mo, mi, mg, 0, mn, mh, ev + 1, cu + 1, fr, oo - 1))) := by
  refine mc_i_of (cc := cX1_end) (maxL := 1) (ret := (some .int)) (by decide) rfl (Nat.le_of_ble_eq_true rfl) ?_
  intro p e s m below meth c A ls hE hml hown hts hr hlk hA hK hh hl
  have hown : s.vm.findClass RX1 = some m.cls := hown
  have hX : ∀ w ∈ wsM_, w.before _ s = true := fun w h => hts w (List.mem_cons_of_mem _ h)
  have hl : lv_has ls 1 [(0, .ref (q 0))] := hl
  obtain ⟨hm0, hm1, hc1, hc2, hmi, hmo1, hx1b, hT, hlm, hmr⟩ := im_f hI
  obtain ⟨hw, hmt, hmn, hmn2, ⟨j0, hj0, hj1, hj2⟩, ⟨hf1, hf2, hm9⟩, hmf, hmx, ⟨hc0, hc3, hev, ho0, ho2⟩, hmo, hms, hmq, hmw, hmh, hl9⟩ := hI
  have ho1 : oo ≤ 600 := by omega
  refine lv_aload_n hE.1 hE.2 dX1_end_0 rfl (lv_at hl 0 rfl) ?_
  refine zv_iconst hE dX1_end_1 ?_
  refine pM_thrown hE hX hown hK hh dX1_end_2 (fun H locs hh => ?_)
  refine lv_aload_n hE.1 hE.2 dX1_end_5 rfl (lv_at hl 0 rfl) ?_
  refine mc_call (rest := []) (As := []) hE hml hown hX hA hK hh (kM_hasOpen l dC dI q cA mt mq mw ms ml mf mx mo mi mg 0 mn mh ev cu fr oo ho0 ho1 hf1 hf2 hmi) (cwV 0 hX qM_hasOpen rfl rfl rfl (by decide +kernel) ⟨Nat.le_of_ble_eq_true rfl, Nat.le_of_ble_eq_true rfl⟩) rfl rfl hl.1 rfl (Nat.le_of_ble_eq_true rfl) dX1_end_6 ⟨Nat.zero_le _, Nat.zero_le _⟩ rfl (fun z_2 u H locs hq_1 hh => ?_)
  obtain ⟨rfl, hq_1a, hq_1b⟩ := hq_1
  have hq_1z : zr_ z_2 := ⟨by omega, by omega⟩
  refine zv_if_ne (tgt := 14) hE dX1_end_9 (by decide) ⟨by omega, by omega⟩ (fun hc_3 => ?_) (fun hc_3 => ?_)
  · refine lv_aload_n hE.1 hE.2 dX1_end_14 rfl (lv_at hl 0 rfl) ?_
    refine lv_dup hE.1 hE.2 dX1_end_15 rfl ?_
    refine gM_opens hE hX hown hK hh dX1_end_16 ?_
    refine zv_iconst hE dX1_end_19 ?_
    refine zv_isub hE dX1_end_20 ?_
    refine pM_opens hE hX hown hK hh dX1_end_21 (fun H locs hh => ?_)
    refine lv_aload_n hE.1 hE.2 dX1_end_24 rfl (lv_at hl 0 rfl) ?_
    refine zv_iconst hE dX1_end_25 ?_
    refine lv_aload_n hE.1 hE.2 dX1_end_26 rfl (lv_at hl 0 rfl) ?_
    refine gM_open hE hX hown hK hh dX1_end_27 ?_
    refine lv_aload_n hE.1 hE.2 dX1_end_30 rfl (lv_at hl 0 rfl) ?_
    refine gM_opens hE hX hown hK hh dX1_end_31 ?_
    refine rM_open hE hK hh ⟨by omega, by omega⟩ dX1_end_34 ?_
    refine zv_imul hE dX1_end_35 ?_
    refine zv_iconst hE dX1_end_36 ?_
    refine zv_iadd hE dX1_end_37 ?_
    refine mc_callv (rest := []) (As := [.int (zi_ ((2 * (mo (oo - 1))) + 1))]) hE hml hown hX hA hK hh (kM_put l dC dI q cA mt mq mw ms ml mf mx mo mi mg 0 mn mh ev cu fr (oo - 1) ((2 * (mo (oo - 1))) + 1) (by omega) (by omega) (by omega)) (cwV 1 hX qM_put rfl rfl rfl (by decide +kernel) ⟨Nat.le_of_ble_eq_true rfl, Nat.le_of_ble_eq_true rfl⟩) rfl rfl hl.1 rfl (Nat.le_of_ble_eq_true rfl) dX1_end_38 ⟨Nat.zero_le _, Nat.zero_le _⟩ rfl (fun u H locs hq_4 hh => ?_)
    obtain ⟨ml1, hmp, rfl⟩ := hq_4
    refine lv_aload_n hE.1 hE.2 dX1_end_41 rfl (lv_at hl 0 rfl) ?_
    refine gM_open hE hX hown hK hh dX1_end_42 ?_
    refine lv_aload_n hE.1 hE.2 dX1_end_45 rfl (lv_at hl 0 rfl) ?_
    refine gM_opens hE hX hown hK hh dX1_end_46 ?_
    refine rM_open hE hK hh ⟨by omega, by omega⟩ dX1_end_49 ?_
    refine mc_ret (u := (mt, mq, mw, ms, up_ ml1 cu ((2 * (mo (oo - 1))) + 1), mf, mx, mo, mi, mg, 0, mn, mh, ev + 1, cu + 1, fr, oo - 1)) hE hr hlk hK hh dX1_end_50 ?_
    first | exact Or.inl ⟨rfl, rfl, by omega⟩ | exact Or.inr ⟨by omega, by omega, rfl, ml1, hmp, rfl⟩
  · refine zv_iconst hE dX1_end_12 ?_
    refine mc_ret (u := (mt, mq, mw, ms, ml, mf, mx, mo, mi, mg, 0, mn, mh, ev, cu, fr, oo)) hE hr hlk hK hh dX1_end_13 ?_
    first | exact Or.inl ⟨rfl, rfl, by omega⟩ | exact Or.inr ⟨by omega, by omega, rfl, ml1, hmp, rfl⟩
set_option maxHeartbeats 400000 in
set_option maxRecDepth 100000 in
theorem kM_weigh (l : Launch) (dC : Nat → ClassId) (dI : Nat → Nat → Nat) (q : Nat → Nat) (cA : Nat → ClassId) (mt mq mw ms ml mf mx mo mi mg : Int → Int) (th mn mh ev cu fr oo : Int) (n1 : Int) (sa ea : Int → Int) (hI : im_ sa ea mt mq mw ms ml mf mx mo mi mn mh ev cu fr oo) (hk9 : zr_ n1) : mc_i l (dC, dI) vwCl (tM_ cA) (wM_ q cA) yX1_weigh wsX1_weigh ({ frames := 3, cells := 0, slots := 0, locals := 140 }) (mt, mq, mw, ms, ml, mf, mx, mo, mi, mg, th, mn, mh, ev, cu, fr, oo) [.ref (q 0), .int (zi_ n1)] (fun (z : Int) (u : SM_) => (z = 0 ∧ u = (mt, mq, mw, ms, ml, mf, mx, mo, mi, mg, 0, mn, mh, ev, cu, fr, oo) ∧ (n1 < 0 ∨ mx (fr - 1) = 1 ∨ 1000000000 < mh + sg_ (cw_ sa mw) 600 + n1)) ∨ (z = 1 ∧ 0 ≤ n1 ∧ mx (fr - 1) = 0 ∧ mh + sg_ (cw_ sa mw) 600 + n1 ≤ 1000000000 ∧ ∃ i : Int, ((0 < oo ∧ mi (oo - 1) = fr - 1 ∧ i = mo (oo - 1)) ∨ ((oo ≤ 0 ∨ mi (oo - 1) ≠ fr - 1) ∧ i = mf (fr - 1))) ∧ ((i = -1 ∧ u = (mt, mq, mw, ms, ml, mf, mx, mo, mi, mg, 0, mn, mh + n1, ev, cu, fr, oo)) ∨ (0 ≤ i ∧ i < 600 ∧ u = (mt, mq, up_ mw i (mw i + n1), ms, ml, mf, mx, mo, mi, mg, 0, mn, mh, ev, cu, fr, oo))))) := by
  refine mc_i_of (cc := cX1_weigh) (maxL := 3) (ret := (some .boolean)) (by decide) rfl (Nat.le_of_ble_eq_true rfl) ?_
  intro p e s m below meth c A ls hE hml hown hts hr hlk hA hK hh hl
  have hown : s.vm.findClass RX1 = some m.cls := hown
  have hX : ∀ w ∈ wsM_, w.before _ s = true := fun w h => hts w (List.mem_cons_of_mem _ h)
  have hl : lv_has ls 3 [(0, .ref (q 0)), (1, .int (zi_ n1))] := hl
  obtain ⟨hm0, hm1, hc1, hc2, hmi, hmo1, hx1b, hT, hlm, hmr⟩ := im_f hI
  obtain ⟨hw, hmt, hmn, hmn2, ⟨j0, hj0, hj1, hj2⟩, ⟨hf1, hf2, hm9⟩, hmf, hmx, ⟨hc0, hc3, hev, ho0, ho2⟩, hmo, hms, hmq, hmw, hmh, hl9⟩ := hI
  have ho1 : oo ≤ 600 := by omega
  refine lv_aload_n hE.1 hE.2 dX1_weigh_0 rfl (lv_at hl 0 rfl) ?_
  refine zv_iconst hE dX1_weigh_1 ?_
  refine pM_thrown hE hX hown hK hh dX1_weigh_2 (fun H locs hh => ?_)
  refine lv_iload_n hE.1 hE.2 dX1_weigh_5 rfl (lv_at hl 1 rfl) ?_
  refine zv_if_lt (tgt := 35) hE dX1_weigh_6 (by decide) ⟨by omega, by omega⟩ (fun hc_1 => ?_) (fun hc_1 => ?_)
  · refine zv_iconst hE dX1_weigh_35 ?_
    refine mc_retz (u := (mt, mq, mw, ms, ml, mf, mx, mo, mi, mg, 0, mn, mh, ev, cu, fr, oo)) hE hr hlk hK hh dX1_weigh_36 (by first | exact Or.inl rfl | exact Or.inr rfl | assumption | (unfold zb_; omega)) ?_
    first | exact Or.inl ⟨rfl, rfl, by omega⟩ | exact Or.inr ⟨rfl, by omega, by omega, by omega, mo (oo - 1), Or.inl ⟨by omega, by omega, rfl⟩, Or.inr ⟨by omega, by omega, rfl⟩⟩ | exact Or.inr ⟨rfl, by omega, by omega, by omega, mf (fr - 1), Or.inr ⟨by omega, rfl⟩, Or.inr ⟨by omega, by omega, rfl⟩⟩ | exact Or.inr ⟨rfl, by omega, by omega, by omega, mf (fr - 1), Or.inr ⟨by omega, rfl⟩, Or.inl ⟨by omega, rfl⟩⟩ | (exfalso; omega)
  · refine lv_aload_n hE.1 hE.2 dX1_weigh_9 rfl (lv_at hl 0 rfl) ?_
    refine gM_taken hE hX hown hK hh dX1_weigh_10 ?_
    refine lv_aload_n hE.1 hE.2 dX1_weigh_13 rfl (lv_at hl 0 rfl) ?_
    refine mc_call (rest := [.ref (q 7)]) (As := []) hE hml hown hX hA hK hh (kM_last l dC dI q cA mt mq mw ms ml mf mx mo mi mg 0 mn mh ev cu fr oo) (cwV 0 hX qM_last rfl rfl rfl (by decide +kernel) ⟨Nat.le_of_ble_eq_true rfl, Nat.le_of_ble_eq_true rfl⟩) rfl rfl hl.1 rfl (Nat.le_of_ble_eq_true rfl) dX1_weigh_14 ⟨Nat.zero_le _, Nat.zero_le _⟩ rfl (fun z_3 u H locs hq_2 hh => ?_)
    obtain ⟨rfl, rfl⟩ := hq_2
    refine rM_taken hE hK hh ⟨by omega, by omega⟩ dX1_weigh_17 ?_
    refine zv_if_ne (tgt := 35) hE dX1_weigh_18 (by decide) ⟨by omega, by omega⟩ (fun hc_4 => ?_) (fun hc_4 => ?_)
    · refine zv_iconst hE dX1_weigh_35 ?_
      refine mc_retz (u := (mt, mq, mw, ms, ml, mf, mx, mo, mi, mg, 0, mn, mh, ev, cu, fr, oo)) hE hr hlk hK hh dX1_weigh_36 (by first | exact Or.inl rfl | exact Or.inr rfl | assumption | (unfold zb_; omega)) ?_
      first | exact Or.inl ⟨rfl, rfl, by omega⟩ | exact Or.inr ⟨rfl, by omega, by omega, by omega, mo (oo - 1), Or.inl ⟨by omega, by omega, rfl⟩, Or.inr ⟨by omega, by omega, rfl⟩⟩ | exact Or.inr ⟨rfl, by omega, by omega, by omega, mf (fr - 1), Or.inr ⟨by omega, rfl⟩, Or.inr ⟨by omega, by omega, rfl⟩⟩ | exact Or.inr ⟨rfl, by omega, by omega, by omega, mf (fr - 1), Or.inr ⟨by omega, rfl⟩, Or.inl ⟨by omega, rfl⟩⟩ | (exfalso; omega)
    · refine lv_aload_n hE.1 hE.2 dX1_weigh_21 rfl (lv_at hl 0 rfl) ?_
      refine mc_calll (rest := []) (As := []) hE hml hown hX hA hK hh (kM_allWeights l dC dI q cA mt mq mw ms ml mf mx mo mi mg 0 mn mh ev cu fr oo sa hmt hmh hmw) (cwV 0 hX qM_allWeights rfl rfl rfl (by decide +kernel) ⟨Nat.le_of_ble_eq_true rfl, Nat.le_of_ble_eq_true rfl⟩) rfl rfl hl.1 rfl (Nat.le_of_ble_eq_true rfl) dX1_weigh_22 ⟨Nat.zero_le _, Nat.zero_le _⟩ rfl (fun z_6 u H locs hq_5 hh => ?_)
      obtain ⟨rfl, rfl⟩ := hq_5
      refine lv_iload_n hE.1 hE.2 dX1_weigh_25 rfl (lv_at hl 1 rfl) ?_
      refine zv_i2l hE ⟨by omega, by omega⟩ dX1_weigh_26 ?_
      refine zv_ladd hE dX1_weigh_27 ?_
      refine lv_ldc2 (v := zl_ 1000000000) hE.1 hE.2 hown (hX _ mM_cn_86) dX1_weigh_28 ?_
      refine zv_lcmp hE ⟨by omega, by omega⟩ ⟨by omega, by omega⟩ dX1_weigh_31 ?_
      refine zv_if_le (tgt := 37) hE dX1_weigh_32 (by decide) (sn_zr _ _) (fun hc_7 => ?_) (fun hc_7 => ?_)
      · rw [sn_le] at hc_7
        refine lv_aload_n hE.1 hE.2 dX1_weigh_37 rfl (lv_at hl 0 rfl) ?_
        refine mc_call (rest := []) (As := []) hE hml hown hX hA hK hh (kM_hasOpen l dC dI q cA mt mq mw ms ml mf mx mo mi mg 0 mn mh ev cu fr oo ho0 ho1 hf1 hf2 hmi) (cwV 0 hX qM_hasOpen rfl rfl rfl (by decide +kernel) ⟨Nat.le_of_ble_eq_true rfl, Nat.le_of_ble_eq_true rfl⟩) rfl rfl hl.1 rfl (Nat.le_of_ble_eq_true rfl) dX1_weigh_38 ⟨Nat.zero_le _, Nat.zero_le _⟩ rfl (fun z_9 u H locs hq_8 hh => ?_)
        obtain ⟨rfl, hq_8a, hq_8b⟩ := hq_8
        have hq_8z : zr_ z_9 := ⟨by omega, by omega⟩
        refine zv_if_eq (tgt := 58) hE dX1_weigh_41 (by decide) ⟨by omega, by omega⟩ (fun hc_10 => ?_) (fun hc_10 => ?_)
        · refine lv_aload_n hE.1 hE.2 dX1_weigh_58 rfl (lv_at hl 0 rfl) ?_
          refine gM_frameOf hE hX hown hK hh dX1_weigh_59 ?_
          refine lv_aload_n hE.1 hE.2 dX1_weigh_62 rfl (lv_at hl 0 rfl) ?_
          refine mc_call (rest := [.ref (q 6)]) (As := []) hE hml hown hX hA hK hh (kM_last l dC dI q cA mt mq mw ms ml mf mx mo mi mg 0 mn mh ev cu fr oo) (cwV 0 hX qM_last rfl rfl rfl (by decide +kernel) ⟨Nat.le_of_ble_eq_true rfl, Nat.le_of_ble_eq_true rfl⟩) rfl rfl hl.1 rfl (Nat.le_of_ble_eq_true rfl) dX1_weigh_63 ⟨Nat.zero_le _, Nat.zero_le _⟩ rfl (fun z_12 u H locs hq_11 hh => ?_)
          obtain ⟨rfl, rfl⟩ := hq_11
          refine rM_frameOf hE hK hh ⟨by omega, by omega⟩ dX1_weigh_66 ?_
          refine lv_istore_n (lv' := [(2, .int (zi_ (mf (fr - 1)))), (0, .ref (q 0)), (1, .int (zi_ n1))]) hE.1 hE.2 dX1_weigh_67 rfl hl (by decide) rfl (fun ls hl => ?_)
          refine lv_iload_n hE.1 hE.2 dX1_weigh_68 rfl (lv_at hl 0 rfl) ?_
          refine zv_if_ge (tgt := 85) hE dX1_weigh_69 (by decide) ⟨by omega, by omega⟩ (fun hc_13 => ?_) (fun hc_13 => ?_)
          · refine lv_aload_n hE.1 hE.2 dX1_weigh_85 rfl (lv_at hl 1 rfl) ?_
            refine gM_weights hE hX hown hK hh dX1_weigh_86 ?_
            refine lv_iload_n hE.1 hE.2 dX1_weigh_89 rfl (lv_at hl 0 rfl) ?_
            refine lv_dup2_11 hE.1 hE.2 dX1_weigh_90 rfl rfl ?_
            refine rM_weights hE hK hh ⟨by omega, by omega⟩ dX1_weigh_91 ?_
            refine lv_iload_n hE.1 hE.2 dX1_weigh_92 rfl (lv_at hl 2 rfl) ?_
            refine zv_iadd hE dX1_weigh_93 ?_
            refine sM_weights hE hK hh ⟨by omega, by omega⟩ dX1_weigh_94 (fun H locs hh => ?_)
            refine zv_iconst hE dX1_weigh_95 ?_
            refine mc_retz (u := (mt, mq, up_ mw (mf (fr - 1)) ((mw (mf (fr - 1))) + n1), ms, ml, mf, mx, mo, mi, mg, 0, mn, mh, ev, cu, fr, oo)) hE hr hlk hK hh dX1_weigh_96 (by first | exact Or.inl rfl | exact Or.inr rfl | assumption | (unfold zb_; omega)) ?_
            first | exact Or.inl ⟨rfl, rfl, by omega⟩ | exact Or.inr ⟨rfl, by omega, by omega, by omega, mo (oo - 1), Or.inl ⟨by omega, by omega, rfl⟩, Or.inr ⟨by omega, by omega, rfl⟩⟩ | exact Or.inr ⟨rfl, by omega, by omega, by omega, mf (fr - 1), Or.inr ⟨by omega, rfl⟩, Or.inr ⟨by omega, by omega, rfl⟩⟩ | exact Or.inr ⟨rfl, by omega, by omega, by omega, mf (fr - 1), Or.inr ⟨by omega, rfl⟩, Or.inl ⟨by omega, rfl⟩⟩ | (exfalso; omega)
          · refine lv_aload_n hE.1 hE.2 dX1_weigh_72 rfl (lv_at hl 1 rfl) ?_
            refine lv_dup hE.1 hE.2 dX1_weigh_73 rfl ?_
            refine gM_whole hE hX hown hK hh dX1_weigh_74 ?_
            refine lv_iload_n hE.1 hE.2 dX1_weigh_77 rfl (lv_at hl 2 rfl) ?_
            refine zv_iadd hE dX1_weigh_78 ?_
            refine pM_whole hE hX hown hK hh dX1_weigh_79 (fun H locs hh => ?_)
            refine lv_goto (tgt := 95) hE.1 hE.2 dX1_weigh_82 (by decide) ?_
            refine zv_iconst hE dX1_weigh_95 ?_
            refine mc_retz (u := (mt, mq, mw, ms, ml, mf, mx, mo, mi, mg, 0, mn, mh + n1, ev, cu, fr, oo)) hE hr hlk hK hh dX1_weigh_96 (by first | exact Or.inl rfl | exact Or.inr rfl | assumption | (unfold zb_; omega)) ?_
            first | exact Or.inl ⟨rfl, rfl, by omega⟩ | exact Or.inr ⟨rfl, by omega, by omega, by omega, mo (oo - 1), Or.inl ⟨by omega, by omega, rfl⟩, Or.inr ⟨by omega, by omega, rfl⟩⟩ | exact Or.inr ⟨rfl, by omega, by omega, by omega, mf (fr - 1), Or.inr ⟨by omega, rfl⟩, Or.inr ⟨by omega, by omega, rfl⟩⟩ | exact Or.inr ⟨rfl, by omega, by omega, by omega, mf (fr - 1), Or.inr ⟨by omega, rfl⟩, Or.inl ⟨by omega, rfl⟩⟩ | (exfalso; omega)
        · refine lv_aload_n hE.1 hE.2 dX1_weigh_44 rfl (lv_at hl 0 rfl) ?_
          refine gM_open hE hX hown hK hh dX1_weigh_45 ?_
          refine lv_aload_n hE.1 hE.2 dX1_weigh_48 rfl (lv_at hl 0 rfl) ?_
          refine gM_opens hE hX hown hK hh dX1_weigh_49 ?_
          refine zv_iconst hE dX1_weigh_52 ?_
          refine zv_isub hE dX1_weigh_53 ?_
          refine rM_open hE hK hh ⟨by omega, by omega⟩ dX1_weigh_54 ?_
          refine lv_goto (tgt := 67) hE.1 hE.2 dX1_weigh_55 (by decide) ?_
          refine lv_istore_n (lv' := [(2, .int (zi_ (mo (oo - 1)))), (0, .ref (q 0)), (1, .int (zi_ n1))]) hE.1 hE.2 dX1_weigh_67 rfl hl (by decide) rfl (fun ls hl => ?_)
          refine lv_iload_n hE.1 hE.2 dX1_weigh_68 rfl (lv_at hl 0 rfl) ?_
          refine zv_if_ge (tgt := 85) hE dX1_weigh_69 (by decide) ⟨by omega, by omega⟩ (fun hc_14 => ?_) (fun hc_14 => ?_)
          · refine lv_aload_n hE.1 hE.2 dX1_weigh_85 rfl (lv_at hl 1 rfl) ?_
            refine gM_weights hE hX hown hK hh dX1_weigh_86 ?_
            refine lv_iload_n hE.1 hE.2 dX1_weigh_89 rfl (lv_at hl 0 rfl) ?_
            refine lv_dup2_11 hE.1 hE.2 dX1_weigh_90 rfl rfl ?_
            refine rM_weights hE hK hh ⟨by omega, by omega⟩ dX1_weigh_91 ?_
            refine lv_iload_n hE.1 hE.2 dX1_weigh_92 rfl (lv_at hl 2 rfl) ?_
            refine zv_iadd hE dX1_weigh_93 ?_
            refine sM_weights hE hK hh ⟨by omega, by omega⟩ dX1_weigh_94 (fun H locs hh => ?_)
            refine zv_iconst hE dX1_weigh_95 ?_
            refine mc_retz (u := (mt, mq, up_ mw (mo (oo - 1)) ((mw (mo (oo - 1))) + n1), ms, ml, mf, mx, mo, mi, mg, 0, mn, mh, ev, cu, fr, oo)) hE hr hlk hK hh dX1_weigh_96 (by first | exact Or.inl rfl | exact Or.inr rfl | assumption | (unfold zb_; omega)) ?_
            first | exact Or.inl ⟨rfl, rfl, by omega⟩ | exact Or.inr ⟨rfl, by omega, by omega, by omega, mo (oo - 1), Or.inl ⟨by omega, by omega, rfl⟩, Or.inr ⟨by omega, by omega, rfl⟩⟩ | exact Or.inr ⟨rfl, by omega, by omega, by omega, mf (fr - 1), Or.inr ⟨by omega, rfl⟩, Or.inr ⟨by omega, by omega, rfl⟩⟩ | exact Or.inr ⟨rfl, by omega, by omega, by omega, mf (fr - 1), Or.inr ⟨by omega, rfl⟩, Or.inl ⟨by omega, rfl⟩⟩ | (exfalso; omega)
          · refine lv_aload_n hE.1 hE.2 dX1_weigh_72 rfl (lv_at hl 1 rfl) ?_
            refine lv_dup hE.1 hE.2 dX1_weigh_73 rfl ?_
            refine gM_whole hE hX hown hK hh dX1_weigh_74 ?_
            refine lv_iload_n hE.1 hE.2 dX1_weigh_77 rfl (lv_at hl 2 rfl) ?_
            refine zv_iadd hE dX1_weigh_78 ?_
            refine pM_whole hE hX hown hK hh dX1_weigh_79 (fun H locs hh => ?_)
            refine lv_goto (tgt := 95) hE.1 hE.2 dX1_weigh_82 (by decide) ?_
            refine zv_iconst hE dX1_weigh_95 ?_
            refine mc_retz (u := (mt, mq, mw, ms, ml, mf, mx, mo, mi, mg, 0, mn, mh + n1, ev, cu, fr, oo)) hE hr hlk hK hh dX1_weigh_96 (by first | exact Or.inl rfl | exact Or.inr rfl | assumption | (unfold zb_; omega)) ?_
            first | exact Or.inl ⟨rfl, rfl, by omega⟩ | exact Or.inr ⟨rfl, by omega, by omega, by omega, mo (oo - 1), Or.inl ⟨by omega, by omega, rfl⟩, Or.inr ⟨by omega, by omega, rfl⟩⟩ | exact Or.inr ⟨rfl, by omega, by omega, by omega, mf (fr - 1), Or.inr ⟨by omega, rfl⟩, Or.inr ⟨by omega, by omega, rfl⟩⟩ | exact Or.inr ⟨rfl, by omega, by omega, by omega, mf (fr - 1), Or.inr ⟨by omega, rfl⟩, Or.inl ⟨by omega, rfl⟩⟩ | (exfalso; omega)
      · rw [← Int.not_le, sn_le] at hc_7
        refine zv_iconst hE dX1_weigh_35 ?_
        refine mc_retz (u := (mt, mq, mw, ms, ml, mf, mx, mo, mi, mg, 0, mn, mh, ev, cu, fr, oo)) hE hr hlk hK hh dX1_weigh_36 (by first | exact Or.inl rfl | exact Or.inr rfl | assumption | (unfold zb_; omega)) ?_
        first | exact Or.inl ⟨rfl, rfl, by omega⟩ | exact Or.inr ⟨rfl, by omega, by omega, by omega, mo (oo - 1), Or.inl ⟨by omega, by omega, rfl⟩, Or.inr ⟨by omega, by omega, rfl⟩⟩ | exact Or.inr ⟨rfl, by omega, by omega, by omega, mf (fr - 1), Or.inr ⟨by omega, rfl⟩, Or.inr ⟨by omega, by omega, rfl⟩⟩ | exact Or.inr ⟨rfl, by omega, by omega, by omega, mf (fr - 1), Or.inr ⟨by omega, rfl⟩, Or.inl ⟨by omega, rfl⟩⟩ | (exfalso; omega)
set_option maxHeartbeats 400000 in
set_option maxRecDepth 100000 in
theorem kM_stale (l : Launch) (dC : Nat → ClassId) (dI : Nat → Nat → Nat) (q : Nat → Nat) (cA : Nat → ClassId) (mt mq mw ms ml mf mx mo mi mg : Int → Int) (th mn mh ev cu fr oo : Int) (i : Int) (sa ea : Int → Int) (hI : im_ sa ea mt mq mw ms ml mf mx mo mi mn mh ev cu fr oo) (hk9 : zr_ i) : mc_i l (dC, dI) vwCl (tM_ cA) (wM_ q cA) yX1_stale wsX1_stale ({ frames := 3, cells := 0, slots := 0, locals := 140 }) (mt, mq, mw, ms, ml, mf, mx, mo, mi, mg, th, mn, mh, ev, cu, fr, oo) [.ref (q 0), .int (zi_ i)] (fun (z : Int) (u : SM_) => (z = 0 ∧ u = (mt, mq, mw, ms, ml, mf, mx, mo, mi, mg, 0, mn, mh, ev, cu, fr, oo) ∧ (i < 0 ∨ 600 ≤ i ∨ sa i = -1 ∨ ea i = -1 ∨ ms i = 1)) ∨ (z = 1 ∧ 0 ≤ i ∧ i < 600 ∧ sa i ≠ -1 ∧ ea i ≠ -1 ∧ ms i = 0 ∧ u = (mt, mq, mw, up_ ms i 1, ml, mf, mx, mo, mi, mg, 0, mn, mh, ev, cu, fr, oo))) := by
  refine mc_i_of (cc := cX1_stale) (maxL := 2) (ret := (some .boolean)) (by decide) rfl (Nat.le_of_ble_eq_true rfl) ?_
  intro p e s m below meth c A ls hE hml hown hts hr hlk hA hK hh hl
  have hown : s.vm.findClass RX1 = some m.cls := hown
  have hX : ∀ w ∈ wsM_, w.before _ s = true := fun w h => hts w (List.mem_cons_of_mem _ h)
  have hl : lv_has ls 2 [(0, .ref (q 0)), (1, .int (zi_ i))] := hl
  obtain ⟨hm0, hm1, hc1, hc2, hmi, hmo1, hx1b, hT, hlm, hmr⟩ := im_f hI
  obtain ⟨hw, hmt, hmn, hmn2, ⟨j0, hj0, hj1, hj2⟩, ⟨hf1, hf2, hm9⟩, hmf, hmx, ⟨hc0, hc3, hev, ho0, ho2⟩, hmo, hms, hmq, hmw, hmh, hl9⟩ := hI
  have ho1 : oo ≤ 600 := by omega
  refine lv_aload_n hE.1 hE.2 dX1_stale_0 rfl (lv_at hl 0 rfl) ?_
  refine zv_iconst hE dX1_stale_1 ?_
  refine pM_thrown hE hX hown hK hh dX1_stale_2 (fun H locs hh => ?_)
  refine lv_aload_n hE.1 hE.2 dX1_stale_5 rfl (lv_at hl 0 rfl) ?_
  refine lv_iload_n hE.1 hE.2 dX1_stale_6 rfl (lv_at hl 1 rfl) ?_
  refine mc_call (rest := []) (As := [.int (zi_ i)]) hE hml hown hX hA hK hh (kM_isThere l dC dI q cA mt mq mw ms ml mf mx mo mi mg 0 mn mh ev cu fr oo i sa (by assumption) hmt) (cwV 1 hX qM_isThere rfl rfl rfl (by decide +kernel) ⟨Nat.le_of_ble_eq_true rfl, Nat.le_of_ble_eq_true rfl⟩) rfl rfl hl.1 rfl (Nat.le_of_ble_eq_true rfl) dX1_stale_7 ⟨Nat.zero_le _, Nat.zero_le _⟩ rfl (fun z_2 u H locs hq_1 hh => ?_)
  obtain ⟨rfl, hq_1a, hq_1b⟩ := hq_1
  have hq_1z : zr_ z_2 := ⟨by omega, by omega⟩
  refine zv_if_eq (tgt := 30) hE dX1_stale_10 (by decide) ⟨by omega, by omega⟩ (fun hc_3 => ?_) (fun hc_3 => ?_)
  · refine zv_iconst hE dX1_stale_30 ?_
    refine mc_retz (u := (mt, mq, mw, ms, ml, mf, mx, mo, mi, mg, 0, mn, mh, ev, cu, fr, oo)) hE hr hlk hK hh dX1_stale_31 (by first | exact Or.inl rfl | exact Or.inr rfl | assumption | (unfold zb_; omega)) ?_
    first | exact Or.inl ⟨rfl, rfl, by omega⟩ | exact Or.inr ⟨rfl, by omega, by omega, by omega, by omega, by omega, rfl⟩
  · refine lv_aload_n hE.1 hE.2 dX1_stale_13 rfl (lv_at hl 0 rfl) ?_
    refine lv_iload_n hE.1 hE.2 dX1_stale_14 rfl (lv_at hl 1 rfl) ?_
    refine mc_call (rest := []) (As := [.int (zi_ i)]) hE hml hown hX hA hK hh (kM_isEnded l dC dI q cA mt mq mw ms ml mf mx mo mi mg 0 mn mh ev cu fr oo i sa ea hw (by omega) (by omega) (by first | assumption | omega)) (cwV 1 hX qM_isEnded rfl rfl rfl (by decide +kernel) ⟨Nat.le_of_ble_eq_true rfl, Nat.le_of_ble_eq_true rfl⟩) rfl rfl hl.1 rfl (Nat.le_of_ble_eq_true rfl) dX1_stale_15 ⟨Nat.zero_le _, Nat.zero_le _⟩ rfl (fun z_5 u H locs hq_4 hh => ?_)
    obtain ⟨rfl, hq_4a, hq_4b⟩ := hq_4
    have hq_4z : zr_ z_5 := ⟨by omega, by omega⟩
    refine zv_if_eq (tgt := 30) hE dX1_stale_18 (by decide) ⟨by omega, by omega⟩ (fun hc_6 => ?_) (fun hc_6 => ?_)
    · refine zv_iconst hE dX1_stale_30 ?_
      refine mc_retz (u := (mt, mq, mw, ms, ml, mf, mx, mo, mi, mg, 0, mn, mh, ev, cu, fr, oo)) hE hr hlk hK hh dX1_stale_31 (by first | exact Or.inl rfl | exact Or.inr rfl | assumption | (unfold zb_; omega)) ?_
      first | exact Or.inl ⟨rfl, rfl, by omega⟩ | exact Or.inr ⟨rfl, by omega, by omega, by omega, by omega, by omega, rfl⟩
    · refine lv_aload_n hE.1 hE.2 dX1_stale_21 rfl (lv_at hl 0 rfl) ?_
      refine gM_isStale hE hX hown hK hh dX1_stale_22 ?_
      refine lv_iload_n hE.1 hE.2 dX1_stale_25 rfl (lv_at hl 1 rfl) ?_
      have hx4 := hms i (by omega) (by omega)
      refine rM_isStale hE hK hh ⟨by omega, by omega⟩ dX1_stale_26 ?_
      refine zv_if_eq (tgt := 32) hE dX1_stale_27 (by decide) ⟨by omega, by omega⟩ (fun hc_7 => ?_) (fun hc_7 => ?_)
      · refine lv_aload_n hE.1 hE.2 dX1_stale_32 rfl (lv_at hl 0 rfl) ?_
        refine gM_isStale hE hX hown hK hh dX1_stale_33 ?_
        refine lv_iload_n hE.1 hE.2 dX1_stale_36 rfl (lv_at hl 1 rfl) ?_
        refine zv_iconst hE dX1_stale_37 ?_
        refine sM_isStale hE hK hh ⟨by omega, by omega⟩ (by first | exact Or.inl rfl | exact Or.inr rfl | assumption) dX1_stale_38 (fun H locs hh => ?_)
        refine zv_iconst hE dX1_stale_39 ?_
        refine mc_retz (u := (mt, mq, mw, up_ ms i 1, ml, mf, mx, mo, mi, mg, 0, mn, mh, ev, cu, fr, oo)) hE hr hlk hK hh dX1_stale_40 (by first | exact Or.inl rfl | exact Or.inr rfl | assumption | (unfold zb_; omega)) ?_
        first | exact Or.inl ⟨rfl, rfl, by omega⟩ | exact Or.inr ⟨rfl, by omega, by omega, by omega, by omega, by omega, rfl⟩
      · refine zv_iconst hE dX1_stale_30 ?_
        refine mc_retz (u := (mt, mq, mw, ms, ml, mf, mx, mo, mi, mg, 0, mn, mh, ev, cu, fr, oo)) hE hr hlk hK hh dX1_stale_31 (by first | exact Or.inl rfl | exact Or.inr rfl | assumption | (unfold zb_; omega)) ?_
        first | exact Or.inl ⟨rfl, rfl, by omega⟩ | exact Or.inr ⟨rfl, by omega, by omega, by omega, by omega, by omega, rfl⟩
set_option maxHeartbeats 400000 in
set_option maxRecDepth 100000 in
theorem kM_resume (l : Launch) (dC : Nat → ClassId) (dI : Nat → Nat → Nat) (q : Nat → Nat) (cA : Nat → ClassId) (mt mq mw ms ml mf mx mo mi mg : Int → Int) (th mn mh ev cu fr oo : Int) (sa ea : Int → Int) (hI : im_ sa ea mt mq mw ms ml mf mx mo mi mn mh ev cu fr oo) : mc_i l (dC, dI) vwCl (tM_ cA) (wM_ q cA) yX1_resume wsX1_resume ({ frames := 3, cells := 0, slots := 0, locals := 140 }) (mt, mq, mw, ms, ml, mf, mx, mo, mi, mg, th, mn, mh, ev, cu, fr, oo) [.ref (q 0)] (fun (z : Int) (u : SM_) => (z = -1 ∧ u = (mt, mq, mw, ms, ml, mf, mx, mo, mi, mg, 0, mn, mh, ev, cu, fr, oo) ∧ ((1 < fr ∧ mx (fr - 1) = 0) ∨ (0 < oo ∧ mi (oo - 1) = fr - 1) ∨ fr = 64 ∨ ∀ k : Int, cu ≤ k → k < (lm_ mf ea ev fr) → ¬ (fun k => ml k % 2 = 0 ∧ ms (ml k / 2) = 1) k)) ∨ ((fr ≤ 1 ∨ mx (fr - 1) = 1) ∧ (oo ≤ 0 ∨ mi (oo - 1) ≠ fr - 1) ∧ fr < 64 ∧ ∃ k : Int, cu ≤ k ∧ k < (lm_ mf ea ev fr) ∧ (fun k => ml k % 2 = 0 ∧ ms (ml k / 2) = 1) k ∧ (∀ j : Int, cu ≤ j → j < k → ¬ (fun k => ml k % 2 = 0 ∧ ms (ml k / 2) = 1) j) ∧ z = ml k / 2 ∧ u = (mt, mq, up_ mw (ml k / 2) 0, up_ ms (ml k / 2) 0, ml, up_ mf fr (ml k / 2), up_ mx fr 0, mo, mi, mg, 0, mn, mh, ev, sa (ml k / 2) + 1, fr + 1, oo))) := by
  refine mc_i_of (cc := cX1_resume) (maxL := 5) (ret := (some .int)) (by decide) rfl (Nat.le_of_ble_eq_true rfl) ?_
  intro p e s m below meth c A ls hE hml hown hts hr hlk hA hK hh hl
  have hown : s.vm.findClass RX1 = some m.cls := hown
  have hX : ∀ w ∈ wsM_, w.before _ s = true := fun w h => hts w (List.mem_cons_of_mem _ h)
  have hl : lv_has ls 5 [(0, .ref (q 0))] := hl
  obtain ⟨hm0, hm1, hc1, hc2, hmi, hmo1, hx1b, hT, hlm, hmr⟩ := im_f hI
  obtain ⟨hw, hmt, hmn, hmn2, ⟨j0, hj0, hj1, hj2⟩, ⟨hf1, hf2, hm9⟩, hmf, hmx, ⟨hc0, hc3, hev, ho0, ho2⟩, hmo, hms, hmq, hmw, hmh, hl9⟩ := hI
  have ho1 : oo ≤ 600 := by omega
  have loop_63 : ∀ (n : Nat) (pl : Int), (cu ≤ pl) → (pl ≤ (lm_ mf ea ev fr)) → ((lm_ mf ea ev fr) - pl < (n : Int)) → (∀ k : Int, cu ≤ k → k < pl → ¬ (fun k => ml k % 2 = 0 ∧ ms (ml k / 2) = 1) k) → ((fr ≤ 1 ∨ mx (fr - 1) = 1) ∧ (oo ≤ 0 ∨ mi (oo - 1) ≠ fr - 1) ∧ fr < 64) → ∀ (H : Heap) (locs : List Loc), hp_ (dC, dI) vwCl A s.heap (wM_ q cA (mt, mq, mw, ms, ml, mf, mx, mo, mi, mg, 0, mn, mh, ev, cu, fr, oo)) H locs → ∀ (ls : Array Slot), lv_has ls 5 [(3, .int (zi_ pl)), (2, .int (zi_ (lm_ mf ea ev fr))), (0, .ref (q 0))] → W p l e ({ frames := 3, cells := 0, slots := 0, locals := 140 }) s m ([.ref (q 0)] : List Value).toArray below meth c H locs 0 0 (MQ below (mc_Qi (dC, dI) vwCl (tM_ cA) (wM_ q cA) (fun (z : Int) (u : SM_) => (z = -1 ∧ u = (mt, mq, mw, ms, ml, mf, mx, mo, mi, mg, 0, mn, mh, ev, cu, fr, oo) ∧ ((1 < fr ∧ mx (fr - 1) = 0) ∨ (0 < oo ∧ mi (oo - 1) = fr - 1) ∨ fr = 64 ∨ ∀ k : Int, cu ≤ k → k < (lm_ mf ea ev fr) → ¬ (fun k => ml k % 2 = 0 ∧ ms (ml k / 2) = 1) k)) ∨ ((fr ≤ 1 ∨ mx (fr - 1) = 1) ∧ (oo ≤ 0 ∨ mi (oo - 1) ≠ fr - 1) ∧ fr < 64 ∧ ∃ k : Int, cu ≤ k ∧ k < (lm_ mf ea ev fr) ∧ (fun k => ml k % 2 = 0 ∧ ms (ml k / 2) = 1) k ∧ (∀ j : Int, cu ≤ j → j < k → ¬ (fun k => ml k % 2 = 0 ∧ ms (ml k / 2) = 1) j) ∧ z = ml k / 2 ∧ u = (mt, mq, up_ mw (ml k / 2) 0, up_ ms (ml k / 2) 0, ml, up_ mf fr (ml k / 2), up_ mx fr 0, mo, mi, mg, 0, mn, mh, ev, sa (ml k / 2) + 1, fr + 1, oo))) A) ([.ref (q 0)] : List Value).toArray s 0 0 A) (F0 m 63 ls []) := by
    intro n
    induction n with
    | zero => intros; exfalso; omega
    | succ n ih =>
      intro pl g0 g1 hn hj hp1 H locs hh ls hl
      refine lv_iload_n hE.1 hE.2 dX1_resume_63 rfl (lv_at hl 0 rfl) ?_
      refine lv_iload_n hE.1 hE.2 dX1_resume_64 rfl (lv_at hl 1 rfl) ?_
      refine zv_icmp_ge (tgt := 131) hE dX1_resume_65 (by decide) ⟨by omega, by omega⟩ ⟨by omega, by omega⟩ (fun hc_1 => ?_) (fun hc_1 => ?_)
      · refine zv_iconst hE dX1_resume_131 ?_
        refine mc_ret (u := (mt, mq, mw, ms, ml, mf, mx, mo, mi, mg, 0, mn, mh, ev, cu, fr, oo)) hE hr hlk hK hh dX1_resume_132 ?_
        first | exact Or.inl ⟨rfl, rfl, Or.inr (Or.inr (Or.inr (fun k a b => hj k a (by omega))))⟩ | exact Or.inl ⟨rfl, rfl, by omega⟩ | exact Or.inr ⟨by omega, by omega, by omega, pl, by omega, by omega, ⟨by omega, by omega⟩, hj, rfl, rfl⟩ | (exfalso; omega)
      · refine lv_aload_n hE.1 hE.2 dX1_resume_68 rfl (lv_at hl 2 rfl) ?_
        refine gM_line hE hX hown hK hh dX1_resume_69 ?_
        refine lv_iload_n hE.1 hE.2 dX1_resume_72 rfl (lv_at hl 0 rfl) ?_
        have hx2 := hw.2.2.2 pl (by omega) (by omega)
        have hx4 := hms (ml pl / 2) (by omega) (by omega)
        refine rM_line hE hK hh ⟨by omega, by omega⟩ dX1_resume_73 ?_
        refine zv_iconst hE dX1_resume_74 ?_
        refine zv_half hE ⟨by omega, by omega⟩ dX1_resume_75 ?_
        refine lv_istore (lv' := [(4, .int (zi_ ((ml pl) / 2))), (3, .int (zi_ pl)), (2, .int (zi_ (lm_ mf ea ev fr))), (0, .ref (q 0))]) hE.1 hE.2 dX1_resume_76 hl (by decide) rfl (fun ls hl => ?_)
        refine lv_aload_n hE.1 hE.2 dX1_resume_78 rfl (lv_at hl 3 rfl) ?_
        refine gM_line hE hX hown hK hh dX1_resume_79 ?_
        refine lv_iload_n hE.1 hE.2 dX1_resume_82 rfl (lv_at hl 1 rfl) ?_
        refine rM_line hE hK hh ⟨by omega, by omega⟩ dX1_resume_83 ?_
        refine zv_iconst hE dX1_resume_84 ?_
        refine zv_rem2 hE ⟨by omega, by omega⟩ dX1_resume_85 ?_
        refine zv_if_ne (tgt := 125) hE dX1_resume_86 (by decide) ⟨by omega, by omega⟩ (fun hc_2 => ?_) (fun hc_2 => ?_)
        · refine zv_iinc (lv' := [(3, .int (zi_ (pl + 1))), (4, .int (zi_ ((ml pl) / 2))), (2, .int (zi_ (lm_ mf ea ev fr))), (0, .ref (q 0))]) hE dX1_resume_125 hl (k := 1) rfl (by decide) rfl (fun ls hl => ?_)
          refine lv_goto (tgt := 63) hE.1 hE.2 dX1_resume_128 (by decide) ?_
          exact ih (pl + 1) (by omega) (by omega) (by omega) (fun k a b => if hq : k = pl then (by rw [hq]; intro hz; omega) else hj k a (by omega)) hp1 _ _ hh ls (lv_sub hl [0, 2, 3] rfl)
        · refine lv_aload_n hE.1 hE.2 dX1_resume_89 rfl (lv_at hl 3 rfl) ?_
          refine gM_isStale hE hX hown hK hh dX1_resume_90 ?_
          refine lv_iload hE.1 hE.2 dX1_resume_93 (lv_at hl 0 rfl) ?_
          refine rM_isStale hE hK hh ⟨by omega, by omega⟩ dX1_resume_95 ?_
          refine zv_if_eq (tgt := 125) hE dX1_resume_96 (by decide) ⟨by omega, by omega⟩ (fun hc_3 => ?_) (fun hc_3 => ?_)
          · refine zv_iinc (lv' := [(3, .int (zi_ (pl + 1))), (4, .int (zi_ ((ml pl) / 2))), (2, .int (zi_ (lm_ mf ea ev fr))), (0, .ref (q 0))]) hE dX1_resume_125 hl (k := 1) rfl (by decide) rfl (fun ls hl => ?_)
            refine lv_goto (tgt := 63) hE.1 hE.2 dX1_resume_128 (by decide) ?_
            exact ih (pl + 1) (by omega) (by omega) (by omega) (fun k a b => if hq : k = pl then (by rw [hq]; intro hz; omega) else hj k a (by omega)) hp1 _ _ hh ls (lv_sub hl [0, 2, 3] rfl)
          · refine lv_aload_n hE.1 hE.2 dX1_resume_99 rfl (lv_at hl 3 rfl) ?_
            refine gM_isStale hE hX hown hK hh dX1_resume_100 ?_
            refine lv_iload hE.1 hE.2 dX1_resume_103 (lv_at hl 0 rfl) ?_
            refine zv_iconst hE dX1_resume_105 ?_
            refine sM_isStale hE hK hh ⟨by omega, by omega⟩ (by first | exact Or.inl rfl | exact Or.inr rfl | assumption) dX1_resume_106 (fun H locs hh => ?_)
            refine lv_aload_n hE.1 hE.2 dX1_resume_107 rfl (lv_at hl 3 rfl) ?_
            refine gM_weights hE hX hown hK hh dX1_resume_108 ?_
            refine lv_iload hE.1 hE.2 dX1_resume_111 (lv_at hl 0 rfl) ?_
            refine zv_iconst hE dX1_resume_113 ?_
            refine sM_weights hE hK hh ⟨by omega, by omega⟩ dX1_resume_114 (fun H locs hh => ?_)
            refine lv_aload_n hE.1 hE.2 dX1_resume_115 rfl (lv_at hl 3 rfl) ?_
            refine lv_iload hE.1 hE.2 dX1_resume_116 (lv_at hl 0 rfl) ?_
            refine zv_iconst hE dX1_resume_118 ?_
            refine mc_callv (rest := []) (As := [.int (zi_ ((ml pl) / 2)), .int (zi_ 0)]) hE hml hown hX hA hK hh (kM_frame l dC dI q cA mt mq (up_ mw ((ml pl) / 2) 0) (up_ ms ((ml pl) / 2) 0) ml mf mx mo mi mg 0 mn mh ev cu fr oo ((ml pl) / 2) 0 sa ea hw hf1 (by omega) (by omega) (by omega) (by first | exact Or.inl rfl | exact Or.inr rfl)) (cwV 2 hX qM_frame rfl rfl rfl (by decide +kernel) ⟨Nat.le_of_ble_eq_true rfl, Nat.le_of_ble_eq_true rfl⟩) rfl rfl hl.1 rfl (Nat.le_of_ble_eq_true rfl) dX1_resume_119 ⟨Nat.zero_le _, Nat.zero_le _⟩ rfl (fun u H locs hq_4 hh => ?_)
            subst hq_4
            refine lv_iload hE.1 hE.2 dX1_resume_122 (lv_at hl 0 rfl) ?_
            refine mc_ret (u := (mt, mq, up_ mw ((ml pl) / 2) 0, up_ ms ((ml pl) / 2) 0, ml, up_ mf fr ((ml pl) / 2), up_ mx fr 0, mo, mi, mg, 0, mn, mh, ev, sa ((ml pl) / 2) + 1, fr + 1, oo)) hE hr hlk hK hh dX1_resume_124 ?_
            first | exact Or.inl ⟨rfl, rfl, Or.inr (Or.inr (Or.inr (fun k a b => hj k a (by omega))))⟩ | exact Or.inl ⟨rfl, rfl, by omega⟩ | exact Or.inr ⟨by omega, by omega, by omega, pl, by omega, by omega, ⟨by omega, by omega⟩, hj, rfl, rfl⟩ | (exfalso; omega)
  refine lv_aload_n hE.1 hE.2 dX1_resume_0 rfl (lv_at hl 0 rfl) ?_
  refine zv_iconst hE dX1_resume_1 ?_
  refine pM_thrown hE hX hown hK hh dX1_resume_2 (fun H locs hh => ?_)
  refine lv_aload_n hE.1 hE.2 dX1_resume_5 rfl (lv_at hl 0 rfl) ?_
  refine gM_frames hE hX hown hK hh dX1_resume_6 ?_
  refine zv_iconst hE dX1_resume_9 ?_
  refine zv_icmp_le (tgt := 29) hE dX1_resume_10 (by decide) ⟨by omega, by omega⟩ ⟨by omega, by omega⟩ (fun hc_6 => ?_) (fun hc_6 => ?_)
  · refine zv_iconst hE dX1_resume_29 ?_
    refine lv_istore_n (lv' := [(1, .int (zi_ 0)), (0, .ref (q 0))]) hE.1 hE.2 dX1_resume_30 rfl hl (by decide) rfl (fun ls hl => ?_)
    refine lv_iload_n hE.1 hE.2 dX1_resume_31 rfl (lv_at hl 0 rfl) ?_
    refine zv_if_ne (tgt := 51) hE dX1_resume_32 (by decide) ⟨by omega, by omega⟩ (fun hc_7 => ?_) (fun hc_7 => ?_)
    · exact absurd hc_7 (by decide)
    · refine lv_aload_n hE.1 hE.2 dX1_resume_35 rfl (lv_at hl 1 rfl) ?_
      refine mc_call (rest := []) (As := []) hE hml hown hX hA hK hh (kM_hasOpen l dC dI q cA mt mq mw ms ml mf mx mo mi mg 0 mn mh ev cu fr oo ho0 ho1 hf1 hf2 hmi) (cwV 0 hX qM_hasOpen rfl rfl rfl (by decide +kernel) ⟨Nat.le_of_ble_eq_true rfl, Nat.le_of_ble_eq_true rfl⟩) rfl rfl hl.1 rfl (Nat.le_of_ble_eq_true rfl) dX1_resume_36 ⟨Nat.zero_le _, Nat.zero_le _⟩ rfl (fun z_9 u H locs hq_8 hh => ?_)
      obtain ⟨rfl, hq_8a, hq_8b⟩ := hq_8
      have hq_8z : zr_ z_9 := ⟨by omega, by omega⟩
      refine zv_if_ne (tgt := 51) hE dX1_resume_39 (by decide) ⟨by omega, by omega⟩ (fun hc_10 => ?_) (fun hc_10 => ?_)
      · refine zv_iconst hE dX1_resume_51 ?_
        refine mc_ret (u := (mt, mq, mw, ms, ml, mf, mx, mo, mi, mg, 0, mn, mh, ev, cu, fr, oo)) hE hr hlk hK hh dX1_resume_52 ?_
        first | exact Or.inl ⟨rfl, rfl, Or.inr (Or.inr (Or.inr (fun k a b => hj k a (by omega))))⟩ | exact Or.inl ⟨rfl, rfl, by omega⟩ | exact Or.inr ⟨by omega, by omega, by omega, pl, by omega, by omega, ⟨by omega, by omega⟩, hj, rfl, rfl⟩ | (exfalso; omega)
      · refine lv_aload_n hE.1 hE.2 dX1_resume_42 rfl (lv_at hl 1 rfl) ?_
        refine gM_frames hE hX hown hK hh dX1_resume_43 ?_
        refine zv_bipush hE dX1_resume_46 (by decide) ?_
        refine zv_icmp_ne (tgt := 53) hE dX1_resume_48 (by decide) ⟨by omega, by omega⟩ ⟨by omega, by omega⟩ (fun hc_11 => ?_) (fun hc_11 => ?_)
        · refine lv_aload_n hE.1 hE.2 dX1_resume_53 rfl (lv_at hl 1 rfl) ?_
          refine mc_call (rest := []) (As := []) hE hml hown hX hA hK hh (kM_limit l dC dI q cA mt mq mw ms ml mf mx mo mi mg 0 mn mh ev cu fr oo sa ea hw hf1 hf2 hm0 hm1) (cwV 0 hX qM_limit rfl rfl rfl (by decide +kernel) ⟨Nat.le_of_ble_eq_true rfl, Nat.le_of_ble_eq_true rfl⟩) rfl rfl hl.1 rfl (Nat.le_of_ble_eq_true rfl) dX1_resume_54 ⟨Nat.zero_le _, Nat.zero_le _⟩ rfl (fun z_13 u H locs hq_12 hh => ?_)
          obtain ⟨rfl, rfl⟩ := hq_12
          refine lv_istore_n (lv' := [(2, .int (zi_ (lm_ mf ea ev fr))), (1, .int (zi_ 0)), (0, .ref (q 0))]) hE.1 hE.2 dX1_resume_57 rfl hl (by decide) rfl (fun ls hl => ?_)
          refine lv_aload_n hE.1 hE.2 dX1_resume_58 rfl (lv_at hl 2 rfl) ?_
          refine gM_cursor hE hX hown hK hh dX1_resume_59 ?_
          refine lv_istore_n (lv' := [(3, .int (zi_ cu)), (2, .int (zi_ (lm_ mf ea ev fr))), (1, .int (zi_ 0)), (0, .ref (q 0))]) hE.1 hE.2 dX1_resume_62 rfl hl (by decide) rfl (fun ls hl => ?_)
          exact loop_63 1300 cu (by omega) (by omega) (by omega) (fun k a b => by omega) (by omega) _ _ hh ls (lv_sub hl [0, 1, 3] rfl)
        · refine zv_iconst hE dX1_resume_51 ?_
          refine mc_ret (u := (mt, mq, mw, ms, ml, mf, mx, mo, mi, mg, 0, mn, mh, ev, cu, fr, oo)) hE hr hlk hK hh dX1_resume_52 ?_
          first | exact Or.inl ⟨rfl, rfl, Or.inr (Or.inr (Or.inr (fun k a b => hj k a (by omega))))⟩ | exact Or.inl ⟨rfl, rfl, by omega⟩ | exact Or.inr ⟨by omega, by omega, by omega, pl, by omega, by omega, ⟨by omega, by omega⟩, hj, rfl, rfl⟩ | (exfalso; omega)
  · refine lv_aload_n hE.1 hE.2 dX1_resume_13 rfl (lv_at hl 0 rfl) ?_
    refine gM_taken hE hX hown hK hh dX1_resume_14 ?_
    refine lv_aload_n hE.1 hE.2 dX1_resume_17 rfl (lv_at hl 0 rfl) ?_
    refine mc_call (rest := [.ref (q 7)]) (As := []) hE hml hown hX hA hK hh (kM_last l dC dI q cA mt mq mw ms ml mf mx mo mi mg 0 mn mh ev cu fr oo) (cwV 0 hX qM_last rfl rfl rfl (by decide +kernel) ⟨Nat.le_of_ble_eq_true rfl, Nat.le_of_ble_eq_true rfl⟩) rfl rfl hl.1 rfl (Nat.le_of_ble_eq_true rfl) dX1_resume_18 ⟨Nat.zero_le _, Nat.zero_le _⟩ rfl (fun z_15 u H locs hq_14 hh => ?_)
    obtain ⟨rfl, rfl⟩ := hq_14
    refine rM_taken hE hK hh ⟨by omega, by omega⟩ dX1_resume_21 ?_
    refine zv_if_ne (tgt := 29) hE dX1_resume_22 (by decide) ⟨by omega, by omega⟩ (fun hc_16 => ?_) (fun hc_16 => ?_)
    · refine zv_iconst hE dX1_resume_29 ?_
      refine lv_istore_n (lv' := [(1, .int (zi_ 0)), (0, .ref (q 0))]) hE.1 hE.2 dX1_resume_30 rfl hl (by decide) rfl (fun ls hl => ?_)
      refine lv_iload_n hE.1 hE.2 dX1_resume_31 rfl (lv_at hl 0 rfl) ?_
      refine zv_if_ne (tgt := 51) hE dX1_resume_32 (by decide) ⟨by omega, by omega⟩ (fun hc_17 => ?_) (fun hc_17 => ?_)
      · exact absurd hc_17 (by decide)
      · refine lv_aload_n hE.1 hE.2 dX1_resume_35 rfl (lv_at hl 1 rfl) ?_
        refine mc_call (rest := []) (As := []) hE hml hown hX hA hK hh (kM_hasOpen l dC dI q cA mt mq mw ms ml mf mx mo mi mg 0 mn mh ev cu fr oo ho0 ho1 hf1 hf2 hmi) (cwV 0 hX qM_hasOpen rfl rfl rfl (by decide +kernel) ⟨Nat.le_of_ble_eq_true rfl, Nat.le_of_ble_eq_true rfl⟩) rfl rfl hl.1 rfl (Nat.le_of_ble_eq_true rfl) dX1_resume_36 ⟨Nat.zero_le _, Nat.zero_le _⟩ rfl (fun z_19 u H locs hq_18 hh => ?_)
        obtain ⟨rfl, hq_18a, hq_18b⟩ := hq_18
        have hq_18z : zr_ z_19 := ⟨by omega, by omega⟩
        refine zv_if_ne (tgt := 51) hE dX1_resume_39 (by decide) ⟨by omega, by omega⟩ (fun hc_20 => ?_) (fun hc_20 => ?_)
        · refine zv_iconst hE dX1_resume_51 ?_
          refine mc_ret (u := (mt, mq, mw, ms, ml, mf, mx, mo, mi, mg, 0, mn, mh, ev, cu, fr, oo)) hE hr hlk hK hh dX1_resume_52 ?_
          first | exact Or.inl ⟨rfl, rfl, Or.inr (Or.inr (Or.inr (fun k a b => hj k a (by omega))))⟩ | exact Or.inl ⟨rfl, rfl, by omega⟩ | exact Or.inr ⟨by omega, by omega, by omega, pl, by omega, by omega, ⟨by omega, by omega⟩, hj, rfl, rfl⟩ | (exfalso; omega)
        · refine lv_aload_n hE.1 hE.2 dX1_resume_42 rfl (lv_at hl 1 rfl) ?_
          refine gM_frames hE hX hown hK hh dX1_resume_43 ?_
          refine zv_bipush hE dX1_resume_46 (by decide) ?_
          refine zv_icmp_ne (tgt := 53) hE dX1_resume_48 (by decide) ⟨by omega, by omega⟩ ⟨by omega, by omega⟩ (fun hc_21 => ?_) (fun hc_21 => ?_)
          · refine lv_aload_n hE.1 hE.2 dX1_resume_53 rfl (lv_at hl 1 rfl) ?_
            refine mc_call (rest := []) (As := []) hE hml hown hX hA hK hh (kM_limit l dC dI q cA mt mq mw ms ml mf mx mo mi mg 0 mn mh ev cu fr oo sa ea hw hf1 hf2 hm0 hm1) (cwV 0 hX qM_limit rfl rfl rfl (by decide +kernel) ⟨Nat.le_of_ble_eq_true rfl, Nat.le_of_ble_eq_true rfl⟩) rfl rfl hl.1 rfl (Nat.le_of_ble_eq_true rfl) dX1_resume_54 ⟨Nat.zero_le _, Nat.zero_le _⟩ rfl (fun z_23 u H locs hq_22 hh => ?_)
            obtain ⟨rfl, rfl⟩ := hq_22
            refine lv_istore_n (lv' := [(2, .int (zi_ (lm_ mf ea ev fr))), (1, .int (zi_ 0)), (0, .ref (q 0))]) hE.1 hE.2 dX1_resume_57 rfl hl (by decide) rfl (fun ls hl => ?_)
            refine lv_aload_n hE.1 hE.2 dX1_resume_58 rfl (lv_at hl 2 rfl) ?_
            refine gM_cursor hE hX hown hK hh dX1_resume_59 ?_
            refine lv_istore_n (lv' := [(3, .int (zi_ cu)), (2, .int (zi_ (lm_ mf ea ev fr))), (1, .int (zi_ 0)), (0, .ref (q 0))]) hE.1 hE.2 dX1_resume_62 rfl hl (by decide) rfl (fun ls hl => ?_)
            exact loop_63 1300 cu (by omega) (by omega) (by omega) (fun k a b => by omega) (by omega) _ _ hh ls (lv_sub hl [0, 1, 3] rfl)
          · refine zv_iconst hE dX1_resume_51 ?_
            refine mc_ret (u := (mt, mq, mw, ms, ml, mf, mx, mo, mi, mg, 0, mn, mh, ev, cu, fr, oo)) hE hr hlk hK hh dX1_resume_52 ?_
            first | exact Or.inl ⟨rfl, rfl, Or.inr (Or.inr (Or.inr (fun k a b => hj k a (by omega))))⟩ | exact Or.inl ⟨rfl, rfl, by omega⟩ | exact Or.inr ⟨by omega, by omega, by omega, pl, by omega, by omega, ⟨by omega, by omega⟩, hj, rfl, rfl⟩ | (exfalso; omega)
    · refine zv_iconst hE dX1_resume_25 ?_
      refine lv_goto (tgt := 30) hE.1 hE.2 dX1_resume_26 (by decide) ?_
      refine lv_istore_n (lv' := [(1, .int (zi_ 1)), (0, .ref (q 0))]) hE.1 hE.2 dX1_resume_30 rfl hl (by decide) rfl (fun ls hl => ?_)
      refine lv_iload_n hE.1 hE.2 dX1_resume_31 rfl (lv_at hl 0 rfl) ?_
      refine zv_if_ne (tgt := 51) hE dX1_resume_32 (by decide) ⟨by omega, by omega⟩ (fun hc_24 => ?_) (fun hc_24 => ?_)
      · refine zv_iconst hE dX1_resume_51 ?_
        refine mc_ret (u := (mt, mq, mw, ms, ml, mf, mx, mo, mi, mg, 0, mn, mh, ev, cu, fr, oo)) hE hr hlk hK hh dX1_resume_52 ?_
        first | exact Or.inl ⟨rfl, rfl, Or.inr (Or.inr (Or.inr (fun k a b => hj k a (by omega))))⟩ | exact Or.inl ⟨rfl, rfl, by omega⟩ | exact Or.inr ⟨by omega, by omega, by omega, pl, by omega, by omega, ⟨by omega, by omega⟩, hj, rfl, rfl⟩ | (exfalso; omega)
      · exact absurd hc_24 (by decide)
set_option maxHeartbeats 400000 in
set_option maxRecDepth 100000 in
theorem kM_take (l : Launch) (dC : Nat → ClassId) (dI : Nat → Nat → Nat) (q : Nat → Nat) (cA : Nat → ClassId) (mt mq mw ms ml mf mx mo mi mg : Int → Int) (th mn mh ev cu fr oo : Int) (key : Int) (sa ea : Int → Int) (hI : im_ sa ea mt mq mw ms ml mf mx mo mi mn mh ev cu fr oo) (hk9 : zr_ key) : mc_i l (dC, dI) vwCl (tM_ cA) (wM_ q cA) yX1_take wsX1_take ({ frames := 3, cells := 0, slots := 0, locals := 140 }) (mt, mq, mw, ms, ml, mf, mx, mo, mi, mg, th, mn, mh, ev, cu, fr, oo) [.ref (q 0), .int (zi_ key)] (fun (z : Int) (u : SM_) => (z = -1 ∧ u = (mt, mq, mw, ms, ml, mf, mx, mo, mi, mg, 0, mn, mh, ev, cu, fr, oo) ∧ (fr = 1 ∨ mx (fr - 1) = 1 ∨ fr = 64 ∨ ∀ k : Int, cu ≤ k → k < (lm_ mf ea ev fr) → ¬ (fun k => ml k % 2 = 0 ∧ mq (ml k / 2) = key ∧ ms (ml k / 2) = 0 ∧ ea (ml k / 2) ≠ -1 ∧ cu ≤ ea (ml k / 2) ∧ ea (ml k / 2) < (lm_ mf ea ev fr)) k)) ∨ (fr ≠ 1 ∧ mx (fr - 1) = 0 ∧ fr < 64 ∧ ∃ k : Int, cu ≤ k ∧ k < (lm_ mf ea ev fr) ∧ (fun k => ml k % 2 = 0 ∧ mq (ml k / 2) = key ∧ ms (ml k / 2) = 0 ∧ ea (ml k / 2) ≠ -1 ∧ cu ≤ ea (ml k / 2) ∧ ea (ml k / 2) < (lm_ mf ea ev fr)) k ∧ (∀ j : Int, cu ≤ j → j < k → ¬ (fun k => ml k % 2 = 0 ∧ mq (ml k / 2) = key ∧ ms (ml k / 2) = 0 ∧ ea (ml k / 2) ≠ -1 ∧ cu ≤ ea (ml k / 2) ∧ ea (ml k / 2) < (lm_ mf ea ev fr)) j) ∧ z = ml k / 2 ∧ ∃ (ml2 mg2 mt2 : Int → Int) (mn2 : Int), er_ sa ea ml ev cu k (es_ sa ml cu k) (ee_ ea ml cu k) ml2 ∧ mt_ mt2 (es_ sa ml cu k) ∧ mn2 = sg_ mt2 600 ∧ u = (mt2, mq, mw, ms, ml2, up_ mf fr (ml k / 2), up_ mx fr 1, mo, mi, mg2, 0, mn2, mh, rz_ (gp_ ml cu k) ev, es_ sa ml cu k (ml k / 2) + 1, fr + 1, oo))) := by
  refine mc_i_of (cc := cX1_take) (maxL := 5) (ret := (some .int)) (by decide) rfl (Nat.le_of_ble_eq_true rfl) ?_
  intro p e s m below meth c A ls hE hml hown hts hr hlk hA hK hh hl
  have hown : s.vm.findClass RX1 = some m.cls := hown
  have hX : ∀ w ∈ wsM_, w.before _ s = true := fun w h => hts w (List.mem_cons_of_mem _ h)
  have hl : lv_has ls 5 [(0, .ref (q 0)), (1, .int (zi_ key))] := hl
  obtain ⟨hm0, hm1, hc1, hc2, hmi, hmo1, hx1b, hT, hlm, hmr⟩ := im_f hI
  obtain ⟨hw, hmt, hmn, hmn2, ⟨j0, hj0, hj1, hj2⟩, ⟨hf1, hf2, hm9⟩, hmf, hmx, ⟨hc0, hc3, hev, ho0, ho2⟩, hmo, hms, hmq, hmw, hmh, hl9⟩ := hI
  have ho1 : oo ≤ 600 := by omega
  have loop_46 : ∀ (n : Nat) (pl : Int), (cu ≤ pl) → (pl ≤ (lm_ mf ea ev fr)) → ((lm_ mf ea ev fr) - pl < (n : Int)) → (∀ k : Int, cu ≤ k → k < pl → ¬ (fun k => ml k % 2 = 0 ∧ mq (ml k / 2) = key ∧ ms (ml k / 2) = 0 ∧ ea (ml k / 2) ≠ -1 ∧ cu ≤ ea (ml k / 2) ∧ ea (ml k / 2) < (lm_ mf ea ev fr)) k) → (fr ≠ 1 ∧ mx (fr - 1) = 0 ∧ fr < 64) → ∀ (H : Heap) (locs : List Loc), hp_ (dC, dI) vwCl A s.heap (wM_ q cA (mt, mq, mw, ms, ml, mf, mx, mo, mi, mg, 0, mn, mh, ev, cu, fr, oo)) H locs → ∀ (ls : Array Slot), lv_has ls 5 [(3, .int (zi_ pl)), (2, .int (zi_ (lm_ mf ea ev fr))), (1, .int (zi_ key)), (0, .ref (q 0))] → W p l e ({ frames := 3, cells := 0, slots := 0, locals := 140 }) s m ([.ref (q 0), .int (zi_ key)] : List Value).toArray below meth c H locs 0 0 (MQ below (mc_Qi (dC, dI) vwCl (tM_ cA) (wM_ q cA) (fun (z : Int) (u : SM_) => (z = -1 ∧ u = (mt, mq, mw, ms, ml, mf, mx, mo, mi, mg, 0, mn, mh, ev, cu, fr, oo) ∧ (fr = 1 ∨ mx (fr - 1) = 1 ∨ fr = 64 ∨ ∀ k : Int, cu ≤ k → k < (lm_ mf ea ev fr) → ¬ (fun k => ml k % 2 = 0 ∧ mq (ml k / 2) = key ∧ ms (ml k / 2) = 0 ∧ ea (ml k / 2) ≠ -1 ∧ cu ≤ ea (ml k / 2) ∧ ea (ml k / 2) < (lm_ mf ea ev fr)) k)) ∨ (fr ≠ 1 ∧ mx (fr - 1) = 0 ∧ fr < 64 ∧ ∃ k : Int, cu ≤ k ∧ k < (lm_ mf ea ev fr) ∧ (fun k => ml k % 2 = 0 ∧ mq (ml k / 2) = key ∧ ms (ml k / 2) = 0 ∧ ea (ml k / 2) ≠ -1 ∧ cu ≤ ea (ml k / 2) ∧ ea (ml k / 2) < (lm_ mf ea ev fr)) k ∧ (∀ j : Int, cu ≤ j → j < k → ¬ (fun k => ml k % 2 = 0 ∧ mq (ml k / 2) = key ∧ ms (ml k / 2) = 0 ∧ ea (ml k / 2) ≠ -1 ∧ cu ≤ ea (ml k / 2) ∧ ea (ml k / 2) < (lm_ mf ea ev fr)) j) ∧ z = ml k / 2 ∧ ∃ (ml2 mg2 mt2 : Int → Int) (mn2 : Int), er_ sa ea ml ev cu k (es_ sa ml cu k) (ee_ ea ml cu k) ml2 ∧ mt_ mt2 (es_ sa ml cu k) ∧ mn2 = sg_ mt2 600 ∧ u = (mt2, mq, mw, ms, ml2, up_ mf fr (ml k / 2), up_ mx fr 1, mo, mi, mg2, 0, mn2, mh, rz_ (gp_ ml cu k) ev, es_ sa ml cu k (ml k / 2) + 1, fr + 1, oo))) A) ([.ref (q 0), .int (zi_ key)] : List Value).toArray s 0 0 A) (F0 m 46 ls []) := by
    intro n
    induction n with
    | zero => intros; exfalso; omega
    | succ n ih =>
      intro pl g0 g1 hn hj hp1 H locs hh ls hl
      refine lv_iload_n hE.1 hE.2 dX1_take_46 rfl (lv_at hl 0 rfl) ?_
      refine lv_iload_n hE.1 hE.2 dX1_take_47 rfl (lv_at hl 1 rfl) ?_
      refine zv_icmp_ge (tgt := 144) hE dX1_take_48 (by decide) ⟨by omega, by omega⟩ ⟨by omega, by omega⟩ (fun hc_1 => ?_) (fun hc_1 => ?_)
      · refine zv_iconst hE dX1_take_144 ?_
        refine mc_ret (u := (mt, mq, mw, ms, ml, mf, mx, mo, mi, mg, 0, mn, mh, ev, cu, fr, oo)) hE hr hlk hK hh dX1_take_145 ?_
        first | exact Or.inl ⟨rfl, rfl, Or.inr (Or.inr (Or.inr (fun k a b => hj k a (by omega))))⟩ | exact Or.inl ⟨rfl, rfl, by omega⟩ | exact Or.inr ⟨by omega, by omega, by omega, pl, by omega, by omega, ⟨by omega, by omega, by omega, by omega, by omega, by omega⟩, hj, rfl, ml2, mg2, mt2, mn2, her, hmt2, hmn9, rfl⟩ | (exfalso; omega)
      · refine lv_aload_n hE.1 hE.2 dX1_take_51 rfl (lv_at hl 3 rfl) ?_
        refine gM_line hE hX hown hK hh dX1_take_52 ?_
        refine lv_iload_n hE.1 hE.2 dX1_take_55 rfl (lv_at hl 0 rfl) ?_
        have hx2 := hw.2.2.2 pl (by omega) (by omega)
        have hx4 := hms (ml pl / 2) (by omega) (by omega)
        have hx5 := hmq (ml pl / 2) (by omega) (by omega)
        refine rM_line hE hK hh ⟨by omega, by omega⟩ dX1_take_56 ?_
        refine zv_iconst hE dX1_take_57 ?_
        refine zv_half hE ⟨by omega, by omega⟩ dX1_take_58 ?_
        refine lv_istore (lv' := [(4, .int (zi_ ((ml pl) / 2))), (3, .int (zi_ pl)), (2, .int (zi_ (lm_ mf ea ev fr))), (1, .int (zi_ key)), (0, .ref (q 0))]) hE.1 hE.2 dX1_take_59 hl (by decide) rfl (fun ls hl => ?_)
        refine lv_aload_n hE.1 hE.2 dX1_take_61 rfl (lv_at hl 4 rfl) ?_
        refine gM_line hE hX hown hK hh dX1_take_62 ?_
        refine lv_iload_n hE.1 hE.2 dX1_take_65 rfl (lv_at hl 1 rfl) ?_
        refine rM_line hE hK hh ⟨by omega, by omega⟩ dX1_take_66 ?_
        refine zv_iconst hE dX1_take_67 ?_
        refine zv_rem2 hE ⟨by omega, by omega⟩ dX1_take_68 ?_
        refine zv_if_ne (tgt := 138) hE dX1_take_69 (by decide) ⟨by omega, by omega⟩ (fun hc_2 => ?_) (fun hc_2 => ?_)
        · refine zv_iinc (lv' := [(3, .int (zi_ (pl + 1))), (4, .int (zi_ ((ml pl) / 2))), (2, .int (zi_ (lm_ mf ea ev fr))), (1, .int (zi_ key)), (0, .ref (q 0))]) hE dX1_take_138 hl (k := 1) rfl (by decide) rfl (fun ls hl => ?_)
          refine lv_goto (tgt := 46) hE.1 hE.2 dX1_take_141 (by decide) ?_
          exact ih (pl + 1) (by omega) (by omega) (by omega) (fun k a b => if hq : k = pl then (by rw [hq]; intro hz; omega) else hj k a (by omega)) hp1 _ _ hh ls (lv_sub hl [0, 2, 3, 4] rfl)
        · refine lv_aload_n hE.1 hE.2 dX1_take_72 rfl (lv_at hl 4 rfl) ?_
          refine gM_keys hE hX hown hK hh dX1_take_73 ?_
          refine lv_iload hE.1 hE.2 dX1_take_76 (lv_at hl 0 rfl) ?_
          refine rM_keys hE hK hh ⟨by omega, by omega⟩ dX1_take_78 ?_
          refine lv_iload_n hE.1 hE.2 dX1_take_79 rfl (lv_at hl 3 rfl) ?_
          refine zv_icmp_ne (tgt := 138) hE dX1_take_80 (by decide) ⟨by omega, by omega⟩ ⟨by omega, by omega⟩ (fun hc_3 => ?_) (fun hc_3 => ?_)
          · refine zv_iinc (lv' := [(3, .int (zi_ (pl + 1))), (4, .int (zi_ ((ml pl) / 2))), (2, .int (zi_ (lm_ mf ea ev fr))), (1, .int (zi_ key)), (0, .ref (q 0))]) hE dX1_take_138 hl (k := 1) rfl (by decide) rfl (fun ls hl => ?_)
            refine lv_goto (tgt := 46) hE.1 hE.2 dX1_take_141 (by decide) ?_
            exact ih (pl + 1) (by omega) (by omega) (by omega) (fun k a b => if hq : k = pl then (by rw [hq]; intro hz; omega) else hj k a (by omega)) hp1 _ _ hh ls (lv_sub hl [0, 2, 3, 4] rfl)
          · refine lv_aload_n hE.1 hE.2 dX1_take_83 rfl (lv_at hl 4 rfl) ?_
            refine gM_isStale hE hX hown hK hh dX1_take_84 ?_
            refine lv_iload hE.1 hE.2 dX1_take_87 (lv_at hl 0 rfl) ?_
            refine rM_isStale hE hK hh ⟨by omega, by omega⟩ dX1_take_89 ?_
            refine zv_if_ne (tgt := 138) hE dX1_take_90 (by decide) ⟨by omega, by omega⟩ (fun hc_4 => ?_) (fun hc_4 => ?_)
            · refine zv_iinc (lv' := [(3, .int (zi_ (pl + 1))), (4, .int (zi_ ((ml pl) / 2))), (2, .int (zi_ (lm_ mf ea ev fr))), (1, .int (zi_ key)), (0, .ref (q 0))]) hE dX1_take_138 hl (k := 1) rfl (by decide) rfl (fun ls hl => ?_)
              refine lv_goto (tgt := 46) hE.1 hE.2 dX1_take_141 (by decide) ?_
              exact ih (pl + 1) (by omega) (by omega) (by omega) (fun k a b => if hq : k = pl then (by rw [hq]; intro hz; omega) else hj k a (by omega)) hp1 _ _ hh ls (lv_sub hl [0, 2, 3, 4] rfl)
            · refine lv_aload_n hE.1 hE.2 dX1_take_93 rfl (lv_at hl 4 rfl) ?_
              refine lv_iload hE.1 hE.2 dX1_take_94 (lv_at hl 0 rfl) ?_
              have hx6 : sa (ml pl / 2) ≠ -1 := by
                have t1 := hx2.2.2.1
                have t2 := hx2.2.2.2
                omega
              have hx7 := hw.2.2.1 (ml pl / 2) (by omega) (by omega) hx6
              have hx8 := hw.2.1 (ml pl / 2) (by omega) (by omega)
              refine mc_call (rest := []) (As := [.int (zi_ ((ml pl) / 2))]) hE hml hown hX hA hK hh (kM_isEnded l dC dI q cA mt mq mw ms ml mf mx mo mi mg 0 mn mh ev cu fr oo ((ml pl) / 2) sa ea hw (by omega) (by omega) (by first | assumption | omega)) (cwV 1 hX qM_isEnded rfl rfl rfl (by decide +kernel) ⟨Nat.le_of_ble_eq_true rfl, Nat.le_of_ble_eq_true rfl⟩) rfl rfl hl.1 rfl (Nat.le_of_ble_eq_true rfl) dX1_take_96 ⟨Nat.zero_le _, Nat.zero_le _⟩ rfl (fun z_6 u H locs hq_5 hh => ?_)
              obtain ⟨rfl, hq_5a, hq_5b⟩ := hq_5
              have hq_5z : zr_ z_6 := ⟨by omega, by omega⟩
              refine zv_if_eq (tgt := 138) hE dX1_take_99 (by decide) ⟨by omega, by omega⟩ (fun hc_7 => ?_) (fun hc_7 => ?_)
              · refine zv_iinc (lv' := [(3, .int (zi_ (pl + 1))), (4, .int (zi_ ((ml pl) / 2))), (2, .int (zi_ (lm_ mf ea ev fr))), (1, .int (zi_ key)), (0, .ref (q 0))]) hE dX1_take_138 hl (k := 1) rfl (by decide) rfl (fun ls hl => ?_)
                refine lv_goto (tgt := 46) hE.1 hE.2 dX1_take_141 (by decide) ?_
                exact ih (pl + 1) (by omega) (by omega) (by omega) (fun k a b => if hq : k = pl then (by rw [hq]; intro hz; omega) else hj k a (by omega)) hp1 _ _ hh ls (lv_sub hl [0, 2, 3, 4] rfl)
              · refine lv_aload_n hE.1 hE.2 dX1_take_102 rfl (lv_at hl 4 rfl) ?_
                refine lv_aload_n hE.1 hE.2 dX1_take_103 rfl (lv_at hl 4 rfl) ?_
                refine zv_iconst hE dX1_take_104 ?_
                refine lv_iload hE.1 hE.2 dX1_take_105 (lv_at hl 0 rfl) ?_
                refine zv_imul hE dX1_take_107 ?_
                refine zv_iconst hE dX1_take_108 ?_
                refine zv_iadd hE dX1_take_109 ?_
                refine mc_call (rest := [.ref (q 0)]) (As := [.int (zi_ ((2 * ((ml pl) / 2)) + 1))]) hE hml hown hX hA hK hh (kM_find l dC dI q cA mt mq mw ms ml mf mx mo mi mg 0 mn mh ev cu fr oo ((2 * ((ml pl) / 2)) + 1) (hw.1.1) (hw.1.2) (fun k x y => ⟨(hw.2.2.2 k x y).1, (hw.2.2.2 k x y).2.1⟩) (by exact ⟨by omega, by omega⟩)) (cwV 1 hX qM_find rfl rfl rfl (by decide +kernel) ⟨Nat.le_of_ble_eq_true rfl, Nat.le_of_ble_eq_true rfl⟩) rfl rfl hl.1 rfl (Nat.le_of_ble_eq_true rfl) dX1_take_110 ⟨Nat.zero_le _, Nat.zero_le _⟩ rfl (fun z_9 u H locs hq_8 hh => ?_)
                obtain ⟨rfl, hq_8⟩ := hq_8
                obtain rfl := fd_e hw (by omega) (by omega) (by first | assumption | omega) hq_8
                refine mc_call (rest := []) (As := [.int (zi_ (ea ((ml pl) / 2)))]) hE hml hown hX hA hK hh (kM_isAhead l dC dI q cA mt mq mw ms ml mf mx mo mi mg 0 mn mh ev cu fr oo (ea ((ml pl) / 2)) sa ea hw hf1 hf2 hm0 hm1 (by exact ⟨by omega, by omega⟩) (by exact ⟨by omega, by omega⟩) (by exact ⟨by omega, by omega⟩)) (cwV 1 hX qM_isAhead rfl rfl rfl (by decide +kernel) ⟨Nat.le_of_ble_eq_true rfl, Nat.le_of_ble_eq_true rfl⟩) rfl rfl hl.1 rfl (Nat.le_of_ble_eq_true rfl) dX1_take_113 ⟨Nat.zero_le _, Nat.zero_le _⟩ rfl (fun z_11 u H locs hq_10 hh => ?_)
                obtain ⟨rfl, hq_10a, hq_10b⟩ := hq_10
                have hq_10z : zr_ z_11 := ⟨by omega, by omega⟩
                refine zv_if_eq (tgt := 138) hE dX1_take_116 (by decide) ⟨by omega, by omega⟩ (fun hc_12 => ?_) (fun hc_12 => ?_)
                · refine zv_iinc (lv' := [(3, .int (zi_ (pl + 1))), (4, .int (zi_ ((ml pl) / 2))), (2, .int (zi_ (lm_ mf ea ev fr))), (1, .int (zi_ key)), (0, .ref (q 0))]) hE dX1_take_138 hl (k := 1) rfl (by decide) rfl (fun ls hl => ?_)
                  refine lv_goto (tgt := 46) hE.1 hE.2 dX1_take_141 (by decide) ?_
                  exact ih (pl + 1) (by omega) (by omega) (by omega) (fun k a b => if hq : k = pl then (by rw [hq]; intro hz; omega) else hj k a (by omega)) hp1 _ _ hh ls (lv_sub hl [0, 2, 3, 4] rfl)
                · refine lv_aload_n hE.1 hE.2 dX1_take_119 rfl (lv_at hl 4 rfl) ?_
                  refine lv_aload_n hE.1 hE.2 dX1_take_120 rfl (lv_at hl 4 rfl) ?_
                  refine gM_cursor hE hX hown hK hh dX1_take_121 ?_
                  refine lv_iload_n hE.1 hE.2 dX1_take_124 rfl (lv_at hl 1 rfl) ?_
                  refine mc_callv (rest := []) (As := [.int (zi_ cu), .int (zi_ pl)]) hE hml hown hX hA hK hh (kM_erase l dC dI q cA mt mq mw ms ml mf mx mo mi mg 0 mn mh ev cu fr oo cu pl sa ea hw hmt hmn (by omega) (by omega) (by omega) (by omega) (by omega)) (cwV 2 hX qM_erase rfl rfl rfl (by decide +kernel) ⟨Nat.le_of_ble_eq_true rfl, Nat.le_of_ble_eq_true rfl⟩) rfl rfl hl.1 rfl (Nat.le_of_ble_eq_true rfl) dX1_take_125 ⟨Nat.zero_le _, Nat.zero_le _⟩ rfl (fun u H locs hq_13 hh => ?_)
                  obtain ⟨ml2, mg2, mt2, mn2, her, hmt2, hmn9, rfl⟩ := hq_13
                  have hw2 := er_pw hw her
                  refine lv_aload_n hE.1 hE.2 dX1_take_128 rfl (lv_at hl 4 rfl) ?_
                  refine lv_iload hE.1 hE.2 dX1_take_129 (lv_at hl 0 rfl) ?_
                  refine zv_iconst hE dX1_take_131 ?_
                  refine mc_callv (rest := []) (As := [.int (zi_ ((ml pl) / 2)), .int (zi_ 1)]) hE hml hown hX hA hK hh (kM_frame l dC dI q cA mt2 mq mw ms ml2 mf mx mo mi mg2 0 mn2 mh (rz_ (gp_ ml cu pl) ev) (rz_ (gp_ ml cu pl) cu) fr oo ((ml pl) / 2) 1 (es_ sa ml cu pl) (ee_ ea ml cu pl) hw2 hf1 (by omega) (by omega) (by omega) (by first | exact Or.inl rfl | exact Or.inr rfl)) (cwV 2 hX qM_frame rfl rfl rfl (by decide +kernel) ⟨Nat.le_of_ble_eq_true rfl, Nat.le_of_ble_eq_true rfl⟩) rfl rfl hl.1 rfl (Nat.le_of_ble_eq_true rfl) dX1_take_132 ⟨Nat.zero_le _, Nat.zero_le _⟩ rfl (fun u H locs hq_15 hh => ?_)
                  subst hq_15
                  refine lv_iload hE.1 hE.2 dX1_take_135 (lv_at hl 0 rfl) ?_
                  refine mc_ret (u := (mt2, mq, mw, ms, ml2, up_ mf fr ((ml pl) / 2), up_ mx fr 1, mo, mi, mg2, 0, mn2, mh, rz_ (gp_ ml cu pl) ev, (es_ sa ml cu pl) ((ml pl) / 2) + 1, fr + 1, oo)) hE hr hlk hK hh dX1_take_137 ?_
                  first | exact Or.inl ⟨rfl, rfl, Or.inr (Or.inr (Or.inr (fun k a b => hj k a (by omega))))⟩ | exact Or.inl ⟨rfl, rfl, by omega⟩ | exact Or.inr ⟨by omega, by omega, by omega, pl, by omega, by omega, ⟨by omega, by omega, by omega, by omega, by omega, by omega⟩, hj, rfl, ml2, mg2, mt2, mn2, her, hmt2, hmn9, rfl⟩ | (exfalso; omega)
  refine lv_aload_n hE.1 hE.2 dX1_take_0 rfl (lv_at hl 0 rfl) ?_
  refine zv_iconst hE dX1_take_1 ?_
  refine pM_thrown hE hX hown hK hh dX1_take_2 (fun H locs hh => ?_)
  refine lv_aload_n hE.1 hE.2 dX1_take_5 rfl (lv_at hl 0 rfl) ?_
  refine gM_frames hE hX hown hK hh dX1_take_6 ?_
  refine zv_iconst hE dX1_take_9 ?_
  refine zv_icmp_eq (tgt := 34) hE dX1_take_10 (by decide) ⟨by omega, by omega⟩ ⟨by omega, by omega⟩ (fun hc_17 => ?_) (fun hc_17 => ?_)
  · refine zv_iconst hE dX1_take_34 ?_
    refine mc_ret (u := (mt, mq, mw, ms, ml, mf, mx, mo, mi, mg, 0, mn, mh, ev, cu, fr, oo)) hE hr hlk hK hh dX1_take_35 ?_
    first | exact Or.inl ⟨rfl, rfl, Or.inr (Or.inr (Or.inr (fun k a b => hj k a (by omega))))⟩ | exact Or.inl ⟨rfl, rfl, by omega⟩ | exact Or.inr ⟨by omega, by omega, by omega, pl, by omega, by omega, ⟨by omega, by omega, by omega, by omega, by omega, by omega⟩, hj, rfl, ml2, mg2, mt2, mn2, her, hmt2, hmn9, rfl⟩ | (exfalso; omega)
  · refine lv_aload_n hE.1 hE.2 dX1_take_13 rfl (lv_at hl 0 rfl) ?_
    refine gM_taken hE hX hown hK hh dX1_take_14 ?_
    refine lv_aload_n hE.1 hE.2 dX1_take_17 rfl (lv_at hl 0 rfl) ?_
    refine mc_call (rest := [.ref (q 7)]) (As := []) hE hml hown hX hA hK hh (kM_last l dC dI q cA mt mq mw ms ml mf mx mo mi mg 0 mn mh ev cu fr oo) (cwV 0 hX qM_last rfl rfl rfl (by decide +kernel) ⟨Nat.le_of_ble_eq_true rfl, Nat.le_of_ble_eq_true rfl⟩) rfl rfl hl.1 rfl (Nat.le_of_ble_eq_true rfl) dX1_take_18 ⟨Nat.zero_le _, Nat.zero_le _⟩ rfl (fun z_19 u H locs hq_18 hh => ?_)
    obtain ⟨rfl, rfl⟩ := hq_18
    refine rM_taken hE hK hh ⟨by omega, by omega⟩ dX1_take_21 ?_
    refine zv_if_ne (tgt := 34) hE dX1_take_22 (by decide) ⟨by omega, by omega⟩ (fun hc_20 => ?_) (fun hc_20 => ?_)
    · refine zv_iconst hE dX1_take_34 ?_
      refine mc_ret (u := (mt, mq, mw, ms, ml, mf, mx, mo, mi, mg, 0, mn, mh, ev, cu, fr, oo)) hE hr hlk hK hh dX1_take_35 ?_
      first | exact Or.inl ⟨rfl, rfl, Or.inr (Or.inr (Or.inr (fun k a b => hj k a (by omega))))⟩ | exact Or.inl ⟨rfl, rfl, by omega⟩ | exact Or.inr ⟨by omega, by omega, by omega, pl, by omega, by omega, ⟨by omega, by omega, by omega, by omega, by omega, by omega⟩, hj, rfl, ml2, mg2, mt2, mn2, her, hmt2, hmn9, rfl⟩ | (exfalso; omega)
    · refine lv_aload_n hE.1 hE.2 dX1_take_25 rfl (lv_at hl 0 rfl) ?_
      refine gM_frames hE hX hown hK hh dX1_take_26 ?_
      refine zv_bipush hE dX1_take_29 (by decide) ?_
      refine zv_icmp_ne (tgt := 36) hE dX1_take_31 (by decide) ⟨by omega, by omega⟩ ⟨by omega, by omega⟩ (fun hc_21 => ?_) (fun hc_21 => ?_)
      · refine lv_aload_n hE.1 hE.2 dX1_take_36 rfl (lv_at hl 0 rfl) ?_
        refine mc_call (rest := []) (As := []) hE hml hown hX hA hK hh (kM_limit l dC dI q cA mt mq mw ms ml mf mx mo mi mg 0 mn mh ev cu fr oo sa ea hw hf1 hf2 hm0 hm1) (cwV 0 hX qM_limit rfl rfl rfl (by decide +kernel) ⟨Nat.le_of_ble_eq_true rfl, Nat.le_of_ble_eq_true rfl⟩) rfl rfl hl.1 rfl (Nat.le_of_ble_eq_true rfl) dX1_take_37 ⟨Nat.zero_le _, Nat.zero_le _⟩ rfl (fun z_23 u H locs hq_22 hh => ?_)
        obtain ⟨rfl, rfl⟩ := hq_22
        refine lv_istore_n (lv' := [(2, .int (zi_ (lm_ mf ea ev fr))), (0, .ref (q 0)), (1, .int (zi_ key))]) hE.1 hE.2 dX1_take_40 rfl hl (by decide) rfl (fun ls hl => ?_)
        refine lv_aload_n hE.1 hE.2 dX1_take_41 rfl (lv_at hl 1 rfl) ?_
        refine gM_cursor hE hX hown hK hh dX1_take_42 ?_
        refine lv_istore_n (lv' := [(3, .int (zi_ cu)), (2, .int (zi_ (lm_ mf ea ev fr))), (0, .ref (q 0)), (1, .int (zi_ key))]) hE.1 hE.2 dX1_take_45 rfl hl (by decide) rfl (fun ls hl => ?_)
        exact loop_46 1300 cu (by omega) (by omega) (by omega) (fun k a b => by omega) (by omega) _ _ hh ls (lv_sub hl [0, 1, 3, 2] rfl)
      · refine zv_iconst hE dX1_take_34 ?_
        refine mc_ret (u := (mt, mq, mw, ms, ml, mf, mx, mo, mi, mg, 0, mn, mh, ev, cu, fr, oo)) hE hr hlk hK hh dX1_take_35 ?_
        first | exact Or.inl ⟨rfl, rfl, Or.inr (Or.inr (Or.inr (fun k a b => hj k a (by omega))))⟩ | exact Or.inl ⟨rfl, rfl, by omega⟩ | exact Or.inr ⟨by omega, by omega, by omega, pl, by omega, by omega, ⟨by omega, by omega, by omega, by omega, by omega, by omega⟩, hj, rfl, ml2, mg2, mt2, mn2, her, hmt2, hmn9, rfl⟩ | (exfalso; omega)
end
section
set_option maxHeartbeats 400000 in
set_option maxRecDepth 100000 in
theorem kM_done (l : Launch) (dC : Nat → ClassId) (dI : Nat → Nat → Nat) (q : Nat → Nat) (cA : Nat → ClassId) (mt mq mw ms ml mf mx mo mi mg : Int → Int) (th mn mh ev cu fr oo : Int) (sa ea : Int → Int) (hI : im_ sa ea mt mq mw ms ml mf mx mo mi mn mh ev cu fr oo) : mc_i l (dC, dI) vwCl (tM_ cA) (wM_ q cA) yX1_done wsX1_done ({ frames := 3, cells := 0, slots := 0, locals := 140 }) (mt, mq, mw, ms, ml, mf, mx, mo, mi, mg, th, mn, mh, ev, cu, fr, oo) [.ref (q 0)] (fun (z : Int) (u : SM_) => (z = -1 ∧ u = (mt, mq, mw, ms, ml, mf, mx, mo, mi, mg, 0, mn, mh, ev, cu, fr, oo) ∧ (fr = 1 ∨ (0 < oo ∧ mi (oo - 1) = fr - 1))) ∨ (1 < fr ∧ (oo ≤ 0 ∨ mi (oo - 1) ≠ fr - 1) ∧ z = mf (fr - 1) ∧ ((mx (fr - 1) = 0 ∧ ∃ (ml2 mg2 mt2 : Int → Int) (mn2 : Int), er_ sa ea ml ev cu (lm_ mf ea ev fr) (es_ sa ml cu (lm_ mf ea ev fr)) (ee_ ea ml cu (lm_ mf ea ev fr)) ml2 ∧ mt_ mt2 (es_ sa ml cu (lm_ mf ea ev fr)) ∧ mn2 = sg_ mt2 600 ∧ u = (mt2, mq, mw, ms, ml2, mf, mx, mo, mi, mg2, 0, mn2, mh, rz_ (gp_ ml cu (lm_ mf ea ev fr)) ev, ee_ ea ml cu (lm_ mf ea ev fr) (mf (fr - 1)) + 1, fr - 1, oo)) ∨ (mx (fr - 1) = 1 ∧ u = (mt, mq, mw, ms, ml, mf, mx, mo, mi, mg, 0, mn, mh, ev, ea (mf (fr - 1)) + 1, fr - 1, oo))))) := by
  refine mc_i_of (cc := cX1_done) (maxL := 2) (ret := (some .int)) (by decide) rfl (Nat.le_of_ble_eq_true rfl) ?_
  intro p e s m below meth c A ls hE hml hown hts hr hlk hA hK hh hl
  have hown : s.vm.findClass RX1 = some m.cls := hown
  have hX : ∀ w ∈ wsM_, w.before _ s = true := fun w h => hts w (List.mem_cons_of_mem _ h)
  have hl : lv_has ls 2 [(0, .ref (q 0))] := hl
  obtain ⟨hm0, hm1, hc1, hc2, hmi, hmo1, hx1b, hT, hlm, hmr⟩ := im_f hI
  obtain ⟨hw, hmt, hmn, hmn2, ⟨j0, hj0, hj1, hj2⟩, ⟨hf1, hf2, hm9⟩, hmf, hmx, ⟨hc0, hc3, hev, ho0, ho2⟩, hmo, hms, hmq, hmw, hmh, hl9⟩ := hI
  have ho1 : oo ≤ 600 := by omega
  refine lv_aload_n hE.1 hE.2 dX1_done_0 rfl (lv_at hl 0 rfl) ?_
  refine zv_iconst hE dX1_done_1 ?_
  refine pM_thrown hE hX hown hK hh dX1_done_2 (fun H locs hh => ?_)
  refine lv_aload_n hE.1 hE.2 dX1_done_5 rfl (lv_at hl 0 rfl) ?_
  refine gM_frames hE hX hown hK hh dX1_done_6 ?_
  refine zv_iconst hE dX1_done_9 ?_
  refine zv_icmp_eq (tgt := 20) hE dX1_done_10 (by decide) ⟨by omega, by omega⟩ ⟨by omega, by omega⟩ (fun hc_1 => ?_) (fun hc_1 => ?_)
  · refine zv_iconst hE dX1_done_20 ?_
    refine mc_ret (u := (mt, mq, mw, ms, ml, mf, mx, mo, mi, mg, 0, mn, mh, ev, cu, fr, oo)) hE hr hlk hK hh dX1_done_21 ?_
    first | exact Or.inl ⟨rfl, rfl, by omega⟩ | exact Or.inr ⟨by omega, by omega, rfl, Or.inl ⟨by omega, ml2, mg2, mt2, mn2, her, hmt2, hmn9, rfl⟩⟩ | exact Or.inr ⟨by omega, by omega, rfl, Or.inr ⟨by omega, rfl⟩⟩ | (exfalso; omega)
  · refine lv_aload_n hE.1 hE.2 dX1_done_13 rfl (lv_at hl 0 rfl) ?_
    refine mc_call (rest := []) (As := []) hE hml hown hX hA hK hh (kM_hasOpen l dC dI q cA mt mq mw ms ml mf mx mo mi mg 0 mn mh ev cu fr oo ho0 ho1 hf1 hf2 hmi) (cwV 0 hX qM_hasOpen rfl rfl rfl (by decide +kernel) ⟨Nat.le_of_ble_eq_true rfl, Nat.le_of_ble_eq_true rfl⟩) rfl rfl hl.1 rfl (Nat.le_of_ble_eq_true rfl) dX1_done_14 ⟨Nat.zero_le _, Nat.zero_le _⟩ rfl (fun z_3 u H locs hq_2 hh => ?_)
    obtain ⟨rfl, hq_2a, hq_2b⟩ := hq_2
    have hq_2z : zr_ z_3 := ⟨by omega, by omega⟩
    refine zv_if_eq (tgt := 22) hE dX1_done_17 (by decide) ⟨by omega, by omega⟩ (fun hc_4 => ?_) (fun hc_4 => ?_)
    · refine lv_aload_n hE.1 hE.2 dX1_done_22 rfl (lv_at hl 0 rfl) ?_
      refine gM_frameOf hE hX hown hK hh dX1_done_23 ?_
      refine lv_aload_n hE.1 hE.2 dX1_done_26 rfl (lv_at hl 0 rfl) ?_
      refine mc_call (rest := [.ref (q 6)]) (As := []) hE hml hown hX hA hK hh (kM_last l dC dI q cA mt mq mw ms ml mf mx mo mi mg 0 mn mh ev cu fr oo) (cwV 0 hX qM_last rfl rfl rfl (by decide +kernel) ⟨Nat.le_of_ble_eq_true rfl, Nat.le_of_ble_eq_true rfl⟩) rfl rfl hl.1 rfl (Nat.le_of_ble_eq_true rfl) dX1_done_27 ⟨Nat.zero_le _, Nat.zero_le _⟩ rfl (fun z_6 u H locs hq_5 hh => ?_)
      obtain ⟨rfl, rfl⟩ := hq_5
      have hx := hm1 (by omega)
      have hx3 := hx.2.2
      refine rM_frameOf hE hK hh ⟨by omega, by omega⟩ dX1_done_30 ?_
      refine lv_istore_n (lv' := [(1, .int (zi_ (mf (fr - 1)))), (0, .ref (q 0))]) hE.1 hE.2 dX1_done_31 rfl hl (by decide) rfl (fun ls hl => ?_)
      refine lv_aload_n hE.1 hE.2 dX1_done_32 rfl (lv_at hl 1 rfl) ?_
      refine gM_taken hE hX hown hK hh dX1_done_33 ?_
      refine lv_aload_n hE.1 hE.2 dX1_done_36 rfl (lv_at hl 1 rfl) ?_
      refine mc_call (rest := [.ref (q 7)]) (As := []) hE hml hown hX hA hK hh (kM_last l dC dI q cA mt mq mw ms ml mf mx mo mi mg 0 mn mh ev cu fr oo) (cwV 0 hX qM_last rfl rfl rfl (by decide +kernel) ⟨Nat.le_of_ble_eq_true rfl, Nat.le_of_ble_eq_true rfl⟩) rfl rfl hl.1 rfl (Nat.le_of_ble_eq_true rfl) dX1_done_37 ⟨Nat.zero_le _, Nat.zero_le _⟩ rfl (fun z_8 u H locs hq_7 hh => ?_)
      obtain ⟨rfl, rfl⟩ := hq_7
      refine rM_taken hE hK hh ⟨by omega, by omega⟩ dX1_done_40 ?_
      refine zv_if_ne (tgt := 56) hE dX1_done_41 (by decide) ⟨by omega, by omega⟩ (fun hc_9 => ?_) (fun hc_9 => ?_)
      · refine lv_aload_n hE.1 hE.2 dX1_done_56 rfl (lv_at hl 1 rfl) ?_
        refine lv_aload_n hE.1 hE.2 dX1_done_57 rfl (lv_at hl 1 rfl) ?_
        refine zv_iconst hE dX1_done_58 ?_
        refine lv_iload_n hE.1 hE.2 dX1_done_59 rfl (lv_at hl 0 rfl) ?_
        refine zv_imul hE dX1_done_60 ?_
        refine zv_iconst hE dX1_done_61 ?_
        refine zv_iadd hE dX1_done_62 ?_
        refine mc_call (rest := [.ref (q 0)]) (As := [.int (zi_ ((2 * (mf (fr - 1))) + 1))]) hE hml hown hX hA hK hh (kM_find l dC dI q cA mt mq mw ms ml mf mx mo mi mg 0 mn mh ev cu fr oo ((2 * (mf (fr - 1))) + 1) (hw.1.1) (hw.1.2) (fun k x y => ⟨(hw.2.2.2 k x y).1, (hw.2.2.2 k x y).2.1⟩) (by exact ⟨by omega, by omega⟩)) (cwV 1 hX qM_find rfl rfl rfl (by decide +kernel) ⟨Nat.le_of_ble_eq_true rfl, Nat.le_of_ble_eq_true rfl⟩) rfl rfl hl.1 rfl (Nat.le_of_ble_eq_true rfl) dX1_done_63 ⟨Nat.zero_le _, Nat.zero_le _⟩ rfl (fun z_11 u H locs hq_10 hh => ?_)
        obtain ⟨rfl, hq_10⟩ := hq_10
        obtain rfl := fd_e hw (by omega) (by omega) (by first | assumption | omega) hq_10
        refine zv_iconst hE dX1_done_66 ?_
        refine zv_iadd hE dX1_done_67 ?_
        refine pM_cursor hE hX hown hK hh dX1_done_68 (fun H locs hh => ?_)
        refine lv_aload_n hE.1 hE.2 dX1_done_71 rfl (lv_at hl 1 rfl) ?_
        refine lv_dup hE.1 hE.2 dX1_done_72 rfl ?_
        refine gM_frames hE hX hown hK hh dX1_done_73 ?_
        refine zv_iconst hE dX1_done_76 ?_
        refine zv_isub hE dX1_done_77 ?_
        refine pM_frames hE hX hown hK hh dX1_done_78 (fun H locs hh => ?_)
        refine lv_iload_n hE.1 hE.2 dX1_done_81 rfl (lv_at hl 0 rfl) ?_
        refine mc_ret (u := (mt, mq, mw, ms, ml, mf, mx, mo, mi, mg, 0, mn, mh, ev, (ea (mf (fr - 1))) + 1, fr - 1, oo)) hE hr hlk hK hh dX1_done_82 ?_
        first | exact Or.inl ⟨rfl, rfl, by omega⟩ | exact Or.inr ⟨by omega, by omega, rfl, Or.inl ⟨by omega, ml2, mg2, mt2, mn2, her, hmt2, hmn9, rfl⟩⟩ | exact Or.inr ⟨by omega, by omega, rfl, Or.inr ⟨by omega, rfl⟩⟩ | (exfalso; omega)
      · refine lv_aload_n hE.1 hE.2 dX1_done_44 rfl (lv_at hl 1 rfl) ?_
        refine lv_aload_n hE.1 hE.2 dX1_done_45 rfl (lv_at hl 1 rfl) ?_
        refine gM_cursor hE hX hown hK hh dX1_done_46 ?_
        refine lv_aload_n hE.1 hE.2 dX1_done_49 rfl (lv_at hl 1 rfl) ?_
        refine mc_call (rest := [.int (zi_ cu), .ref (q 0)]) (As := []) hE hml hown hX hA hK hh (kM_limit l dC dI q cA mt mq mw ms ml mf mx mo mi mg 0 mn mh ev cu fr oo sa ea hw hf1 hf2 hm0 hm1) (cwV 0 hX qM_limit rfl rfl rfl (by decide +kernel) ⟨Nat.le_of_ble_eq_true rfl, Nat.le_of_ble_eq_true rfl⟩) rfl rfl hl.1 rfl (Nat.le_of_ble_eq_true rfl) dX1_done_50 ⟨Nat.zero_le _, Nat.zero_le _⟩ rfl (fun z_13 u H locs hq_12 hh => ?_)
        obtain ⟨rfl, rfl⟩ := hq_12
        refine mc_callv (rest := []) (As := [.int (zi_ cu), .int (zi_ (lm_ mf ea ev fr))]) hE hml hown hX hA hK hh (kM_erase l dC dI q cA mt mq mw ms ml mf mx mo mi mg 0 mn mh ev cu fr oo cu (lm_ mf ea ev fr) sa ea hw hmt hmn (by omega) (by omega) (by omega) (by omega) (by omega)) (cwV 2 hX qM_erase rfl rfl rfl (by decide +kernel) ⟨Nat.le_of_ble_eq_true rfl, Nat.le_of_ble_eq_true rfl⟩) rfl rfl hl.1 rfl (Nat.le_of_ble_eq_true rfl) dX1_done_53 ⟨Nat.zero_le _, Nat.zero_le _⟩ rfl (fun u H locs hq_14 hh => ?_)
        obtain ⟨ml2, mg2, mt2, mn2, her, hmt2, hmn9, rfl⟩ := hq_14
        have hw2 := er_pw hw her
        have hes : es_ sa ml cu (lm_ mf ea ev fr) (mf (fr - 1)) ≠ -1 := by
          have t1 := hm1 (by omega)
          have t2 := hl9 (by omega)
          have t3 := hlm (by omega)
          have t4 : ¬ fg_ ml cu (lm_ mf ea ev fr) (mf (fr - 1)) := nfg_ hw hc0 hc2 (by omega) (by omega)
          have t5 := (her.2 (mf (fr - 1)) t1.1 t1.2.1).2 t1.2.2 t4
          have t6 := hw.2.1 (mf (fr - 1)) t1.1 t1.2.1
          have t7 := rz_nn (gp_ ml cu (lm_ mf ea ev fr)) (show 0 ≤ sa (mf (fr - 1)) by omega)
          rw [t5.1]
          omega
        refine lv_aload_n hE.1 hE.2 dX1_done_56 rfl (lv_at hl 1 rfl) ?_
        refine lv_aload_n hE.1 hE.2 dX1_done_57 rfl (lv_at hl 1 rfl) ?_
        refine zv_iconst hE dX1_done_58 ?_
        refine lv_iload_n hE.1 hE.2 dX1_done_59 rfl (lv_at hl 0 rfl) ?_
        refine zv_imul hE dX1_done_60 ?_
        refine zv_iconst hE dX1_done_61 ?_
        refine zv_iadd hE dX1_done_62 ?_
        refine mc_call (rest := [.ref (q 0)]) (As := [.int (zi_ ((2 * (mf (fr - 1))) + 1))]) hE hml hown hX hA hK hh (kM_find l dC dI q cA mt2 mq mw ms ml2 mf mx mo mi mg2 0 mn2 mh (rz_ (gp_ ml cu (lm_ mf ea ev fr)) ev) (rz_ (gp_ ml cu (lm_ mf ea ev fr)) cu) fr oo ((2 * (mf (fr - 1))) + 1) (hw2.1.1) (hw2.1.2) (fun k x y => ⟨(hw2.2.2.2 k x y).1, (hw2.2.2.2 k x y).2.1⟩) (by exact ⟨by omega, by omega⟩)) (cwV 1 hX qM_find rfl rfl rfl (by decide +kernel) ⟨Nat.le_of_ble_eq_true rfl, Nat.le_of_ble_eq_true rfl⟩) rfl rfl hl.1 rfl (Nat.le_of_ble_eq_true rfl) dX1_done_63 ⟨Nat.zero_le _, Nat.zero_le _⟩ rfl (fun z_17 u H locs hq_16 hh => ?_)
        obtain ⟨rfl, hq_16⟩ := hq_16
        obtain rfl := fd_e hw2 (by omega) (by omega) (by first | assumption | omega) hq_16
        refine zv_iconst hE dX1_done_66 ?_
        refine zv_iadd hE dX1_done_67 ?_
        refine pM_cursor hE hX hown hK hh dX1_done_68 (fun H locs hh => ?_)
        refine lv_aload_n hE.1 hE.2 dX1_done_71 rfl (lv_at hl 1 rfl) ?_
        refine lv_dup hE.1 hE.2 dX1_done_72 rfl ?_
        refine gM_frames hE hX hown hK hh dX1_done_73 ?_
        refine zv_iconst hE dX1_done_76 ?_
        refine zv_isub hE dX1_done_77 ?_
        refine pM_frames hE hX hown hK hh dX1_done_78 (fun H locs hh => ?_)
        refine lv_iload_n hE.1 hE.2 dX1_done_81 rfl (lv_at hl 0 rfl) ?_
        refine mc_ret (u := (mt2, mq, mw, ms, ml2, mf, mx, mo, mi, mg2, 0, mn2, mh, rz_ (gp_ ml cu (lm_ mf ea ev fr)) ev, ((ee_ ea ml cu (lm_ mf ea ev fr)) (mf (fr - 1))) + 1, fr - 1, oo)) hE hr hlk hK hh dX1_done_82 ?_
        first | exact Or.inl ⟨rfl, rfl, by omega⟩ | exact Or.inr ⟨by omega, by omega, rfl, Or.inl ⟨by omega, ml2, mg2, mt2, mn2, her, hmt2, hmn9, rfl⟩⟩ | exact Or.inr ⟨by omega, by omega, rfl, Or.inr ⟨by omega, rfl⟩⟩ | (exfalso; omega)
    · refine zv_iconst hE dX1_done_20 ?_
      refine mc_ret (u := (mt, mq, mw, ms, ml, mf, mx, mo, mi, mg, 0, mn, mh, ev, cu, fr, oo)) hE hr hlk hK hh dX1_done_21 ?_
      first | exact Or.inl ⟨rfl, rfl, by omega⟩ | exact Or.inr ⟨by omega, by omega, rfl, Or.inl ⟨by omega, ml2, mg2, mt2, mn2, her, hmt2, hmn9, rfl⟩⟩ | exact Or.inr ⟨by omega, by omega, rfl, Or.inr ⟨by omega, rfl⟩⟩ | (exfalso; omega)
set_option maxHeartbeats 400000 in
set_option maxRecDepth 100000 in
theorem kM_toEnd (l : Launch) (dC : Nat → ClassId) (dI : Nat → Nat → Nat) (q : Nat → Nat) (cA : Nat → ClassId) (mt mq mw ms ml mf mx mo mi mg : Int → Int) (th mn mh ev cu fr oo : Int) (sa ea : Int → Int) (hI : im_ sa ea mt mq mw ms ml mf mx mo mi mn mh ev cu fr oo) : mc_i l (dC, dI) vwCl (tM_ cA) (wM_ q cA) yX1_toEnd wsX1_toEnd ({ frames := 3, cells := 0, slots := 0, locals := 140 }) (mt, mq, mw, ms, ml, mf, mx, mo, mi, mg, th, mn, mh, ev, cu, fr, oo) [.ref (q 0)] (fun (z : Int) (u : SM_) => (z = 1 ∧ fr = 1 ∧ oo = 0 ∧ u = (mt, mq, mw, ms, ml, mf, mx, mo, mi, mg, 0, mn, mh, ev, ev, fr, oo)) ∨ (z = 0 ∧ (fr ≠ 1 ∨ oo ≠ 0) ∧ u = (mt, mq, mw, ms, ml, mf, mx, mo, mi, mg, 0, mn, mh, ev, cu, fr, oo))) := by
  refine mc_i_of (cc := cX1_toEnd) (maxL := 1) (ret := (some .boolean)) (by decide) rfl (Nat.le_of_ble_eq_true rfl) ?_
  intro p e s m below meth c A ls hE hml hown hts hr hlk hA hK hh hl
  have hown : s.vm.findClass RX1 = some m.cls := hown
  have hX : ∀ w ∈ wsM_, w.before _ s = true := fun w h => hts w (List.mem_cons_of_mem _ h)
  have hl : lv_has ls 1 [(0, .ref (q 0))] := hl
  obtain ⟨hm0, hm1, hc1, hc2, hmi, hmo1, hx1b, hT, hlm, hmr⟩ := im_f hI
  obtain ⟨hw, hmt, hmn, hmn2, ⟨j0, hj0, hj1, hj2⟩, ⟨hf1, hf2, hm9⟩, hmf, hmx, ⟨hc0, hc3, hev, ho0, ho2⟩, hmo, hms, hmq, hmw, hmh, hl9⟩ := hI
  have ho1 : oo ≤ 600 := by omega
  refine lv_aload_n hE.1 hE.2 dX1_toEnd_0 rfl (lv_at hl 0 rfl) ?_
  refine zv_iconst hE dX1_toEnd_1 ?_
  refine pM_thrown hE hX hown hK hh dX1_toEnd_2 (fun H locs hh => ?_)
  refine lv_aload_n hE.1 hE.2 dX1_toEnd_5 rfl (lv_at hl 0 rfl) ?_
  refine lv_aload_n hE.1 hE.2 dX1_toEnd_6 rfl (lv_at hl 0 rfl) ?_
  refine mc_call (rest := [.ref (q 0)]) (As := []) hE hml hown hX hA hK hh (kM_isFree l dC dI q cA mt mq mw ms ml mf mx mo mi mg 0 mn mh ev cu fr oo ho0 ho1 hf1 hf2) (cwV 0 hX qM_isFree rfl rfl rfl (by decide +kernel) ⟨Nat.le_of_ble_eq_true rfl, Nat.le_of_ble_eq_true rfl⟩) rfl rfl hl.1 rfl (Nat.le_of_ble_eq_true rfl) dX1_toEnd_7 ⟨Nat.zero_le _, Nat.zero_le _⟩ rfl (fun z_2 u H locs hq_1 hh => ?_)
  obtain ⟨rfl, hq_1a, hq_1b⟩ := hq_1
  have hq_1z : zr_ z_2 := ⟨by omega, by omega⟩
  refine zv_if_eq (tgt := 20) hE dX1_toEnd_10 (by decide) ⟨by omega, by omega⟩ (fun hc_3 => ?_) (fun hc_3 => ?_)
  · refine lv_aload_n hE.1 hE.2 dX1_toEnd_20 rfl (lv_at hl 0 rfl) ?_
    refine gM_cursor hE hX hown hK hh dX1_toEnd_21 ?_
    refine pM_cursor hE hX hown hK hh dX1_toEnd_24 (fun H locs hh => ?_)
    refine lv_aload_n hE.1 hE.2 dX1_toEnd_27 rfl (lv_at hl 0 rfl) ?_
    refine mc_call (rest := []) (As := []) hE hml hown hX hA hK hh (kM_isFree l dC dI q cA mt mq mw ms ml mf mx mo mi mg 0 mn mh ev cu fr oo ho0 ho1 hf1 hf2) (cwV 0 hX qM_isFree rfl rfl rfl (by decide +kernel) ⟨Nat.le_of_ble_eq_true rfl, Nat.le_of_ble_eq_true rfl⟩) rfl rfl hl.1 rfl (Nat.le_of_ble_eq_true rfl) dX1_toEnd_28 ⟨Nat.zero_le _, Nat.zero_le _⟩ rfl (fun z_5 u H locs hq_4 hh => ?_)
    obtain ⟨rfl, hq_4a, hq_4b⟩ := hq_4
    have hq_4z : zr_ z_5 := ⟨by omega, by omega⟩
    refine mc_retz (u := (mt, mq, mw, ms, ml, mf, mx, mo, mi, mg, 0, mn, mh, ev, cu, fr, oo)) hE hr hlk hK hh dX1_toEnd_31 (by first | exact Or.inl rfl | exact Or.inr rfl | assumption | (unfold zb_; omega)) ?_
    first | exact Or.inl ⟨by omega, by omega, by omega, rfl⟩ | exact Or.inr ⟨by omega, by omega, rfl⟩ | (exfalso; omega)
  · refine lv_aload_n hE.1 hE.2 dX1_toEnd_13 rfl (lv_at hl 0 rfl) ?_
    refine gM_events hE hX hown hK hh dX1_toEnd_14 ?_
    refine lv_goto (tgt := 24) hE.1 hE.2 dX1_toEnd_17 (by decide) ?_
    refine pM_cursor hE hX hown hK hh dX1_toEnd_24 (fun H locs hh => ?_)
    refine lv_aload_n hE.1 hE.2 dX1_toEnd_27 rfl (lv_at hl 0 rfl) ?_
    refine mc_call (rest := []) (As := []) hE hml hown hX hA hK hh (kM_isFree l dC dI q cA mt mq mw ms ml mf mx mo mi mg 0 mn mh ev ev fr oo ho0 ho1 hf1 hf2) (cwV 0 hX qM_isFree rfl rfl rfl (by decide +kernel) ⟨Nat.le_of_ble_eq_true rfl, Nat.le_of_ble_eq_true rfl⟩) rfl rfl hl.1 rfl (Nat.le_of_ble_eq_true rfl) dX1_toEnd_28 ⟨Nat.zero_le _, Nat.zero_le _⟩ rfl (fun z_7 u H locs hq_6 hh => ?_)
    obtain ⟨rfl, hq_6a, hq_6b⟩ := hq_6
    have hq_6z : zr_ z_7 := ⟨by omega, by omega⟩
    refine mc_retz (u := (mt, mq, mw, ms, ml, mf, mx, mo, mi, mg, 0, mn, mh, ev, ev, fr, oo)) hE hr hlk hK hh dX1_toEnd_31 (by first | exact Or.inl rfl | exact Or.inr rfl | assumption | (unfold zb_; omega)) ?_
    first | exact Or.inl ⟨by omega, by omega, by omega, rfl⟩ | exact Or.inr ⟨by omega, by omega, rfl⟩ | (exfalso; omega)
set_option maxHeartbeats 400000 in
set_option maxRecDepth 100000 in
theorem kM_toBegin (l : Launch) (dC : Nat → ClassId) (dI : Nat → Nat → Nat) (q : Nat → Nat) (cA : Nat → ClassId) (mt mq mw ms ml mf mx mo mi mg : Int → Int) (th mn mh ev cu fr oo : Int) (sa ea : Int → Int) (hI : im_ sa ea mt mq mw ms ml mf mx mo mi mn mh ev cu fr oo) : mc_i l (dC, dI) vwCl (tM_ cA) (wM_ q cA) yX1_toBegin wsX1_toBegin ({ frames := 3, cells := 0, slots := 0, locals := 140 }) (mt, mq, mw, ms, ml, mf, mx, mo, mi, mg, th, mn, mh, ev, cu, fr, oo) [.ref (q 0)] (fun (z : Int) (u : SM_) => (z = 1 ∧ fr = 1 ∧ oo = 0 ∧ u = (mt, mq, mw, ms, ml, mf, mx, mo, mi, mg, 0, mn, mh, ev, 0, fr, oo)) ∨ (z = 0 ∧ (fr ≠ 1 ∨ oo ≠ 0) ∧ u = (mt, mq, mw, ms, ml, mf, mx, mo, mi, mg, 0, mn, mh, ev, cu, fr, oo))) := by
  refine mc_i_of (cc := cX1_toBegin) (maxL := 1) (ret := (some .boolean)) (by decide) rfl (Nat.le_of_ble_eq_true rfl) ?_
  intro p e s m below meth c A ls hE hml hown hts hr hlk hA hK hh hl
  have hown : s.vm.findClass RX1 = some m.cls := hown
  have hX : ∀ w ∈ wsM_, w.before _ s = true := fun w h => hts w (List.mem_cons_of_mem _ h)
  have hl : lv_has ls 1 [(0, .ref (q 0))] := hl
  obtain ⟨hm0, hm1, hc1, hc2, hmi, hmo1, hx1b, hT, hlm, hmr⟩ := im_f hI
  obtain ⟨hw, hmt, hmn, hmn2, ⟨j0, hj0, hj1, hj2⟩, ⟨hf1, hf2, hm9⟩, hmf, hmx, ⟨hc0, hc3, hev, ho0, ho2⟩, hmo, hms, hmq, hmw, hmh, hl9⟩ := hI
  have ho1 : oo ≤ 600 := by omega
  refine lv_aload_n hE.1 hE.2 dX1_toBegin_0 rfl (lv_at hl 0 rfl) ?_
  refine zv_iconst hE dX1_toBegin_1 ?_
  refine pM_thrown hE hX hown hK hh dX1_toBegin_2 (fun H locs hh => ?_)
  refine lv_aload_n hE.1 hE.2 dX1_toBegin_5 rfl (lv_at hl 0 rfl) ?_
  refine lv_aload_n hE.1 hE.2 dX1_toBegin_6 rfl (lv_at hl 0 rfl) ?_
  refine mc_call (rest := [.ref (q 0)]) (As := []) hE hml hown hX hA hK hh (kM_isFree l dC dI q cA mt mq mw ms ml mf mx mo mi mg 0 mn mh ev cu fr oo ho0 ho1 hf1 hf2) (cwV 0 hX qM_isFree rfl rfl rfl (by decide +kernel) ⟨Nat.le_of_ble_eq_true rfl, Nat.le_of_ble_eq_true rfl⟩) rfl rfl hl.1 rfl (Nat.le_of_ble_eq_true rfl) dX1_toBegin_7 ⟨Nat.zero_le _, Nat.zero_le _⟩ rfl (fun z_2 u H locs hq_1 hh => ?_)
  obtain ⟨rfl, hq_1a, hq_1b⟩ := hq_1
  have hq_1z : zr_ z_2 := ⟨by omega, by omega⟩
  refine zv_if_eq (tgt := 17) hE dX1_toBegin_10 (by decide) ⟨by omega, by omega⟩ (fun hc_3 => ?_) (fun hc_3 => ?_)
  · refine lv_aload_n hE.1 hE.2 dX1_toBegin_17 rfl (lv_at hl 0 rfl) ?_
    refine gM_cursor hE hX hown hK hh dX1_toBegin_18 ?_
    refine pM_cursor hE hX hown hK hh dX1_toBegin_21 (fun H locs hh => ?_)
    refine lv_aload_n hE.1 hE.2 dX1_toBegin_24 rfl (lv_at hl 0 rfl) ?_
    refine mc_call (rest := []) (As := []) hE hml hown hX hA hK hh (kM_isFree l dC dI q cA mt mq mw ms ml mf mx mo mi mg 0 mn mh ev cu fr oo ho0 ho1 hf1 hf2) (cwV 0 hX qM_isFree rfl rfl rfl (by decide +kernel) ⟨Nat.le_of_ble_eq_true rfl, Nat.le_of_ble_eq_true rfl⟩) rfl rfl hl.1 rfl (Nat.le_of_ble_eq_true rfl) dX1_toBegin_25 ⟨Nat.zero_le _, Nat.zero_le _⟩ rfl (fun z_5 u H locs hq_4 hh => ?_)
    obtain ⟨rfl, hq_4a, hq_4b⟩ := hq_4
    have hq_4z : zr_ z_5 := ⟨by omega, by omega⟩
    refine mc_retz (u := (mt, mq, mw, ms, ml, mf, mx, mo, mi, mg, 0, mn, mh, ev, cu, fr, oo)) hE hr hlk hK hh dX1_toBegin_28 (by first | exact Or.inl rfl | exact Or.inr rfl | assumption | (unfold zb_; omega)) ?_
    first | exact Or.inl ⟨by omega, by omega, by omega, rfl⟩ | exact Or.inr ⟨by omega, by omega, rfl⟩ | (exfalso; omega)
  · refine zv_iconst hE dX1_toBegin_13 ?_
    refine lv_goto (tgt := 21) hE.1 hE.2 dX1_toBegin_14 (by decide) ?_
    refine pM_cursor hE hX hown hK hh dX1_toBegin_21 (fun H locs hh => ?_)
    refine lv_aload_n hE.1 hE.2 dX1_toBegin_24 rfl (lv_at hl 0 rfl) ?_
    refine mc_call (rest := []) (As := []) hE hml hown hX hA hK hh (kM_isFree l dC dI q cA mt mq mw ms ml mf mx mo mi mg 0 mn mh ev 0 fr oo ho0 ho1 hf1 hf2) (cwV 0 hX qM_isFree rfl rfl rfl (by decide +kernel) ⟨Nat.le_of_ble_eq_true rfl, Nat.le_of_ble_eq_true rfl⟩) rfl rfl hl.1 rfl (Nat.le_of_ble_eq_true rfl) dX1_toBegin_25 ⟨Nat.zero_le _, Nat.zero_le _⟩ rfl (fun z_7 u H locs hq_6 hh => ?_)
    obtain ⟨rfl, hq_6a, hq_6b⟩ := hq_6
    have hq_6z : zr_ z_7 := ⟨by omega, by omega⟩
    refine mc_retz (u := (mt, mq, mw, ms, ml, mf, mx, mo, mi, mg, 0, mn, mh, ev, 0, fr, oo)) hE hr hlk hK hh dX1_toBegin_28 (by first | exact Or.inl rfl | exact Or.inr rfl | assumption | (unfold zb_; omega)) ?_
    first | exact Or.inl ⟨by omega, by omega, by omega, rfl⟩ | exact Or.inr ⟨by omega, by omega, rfl⟩ | (exfalso; omega)
set_option maxHeartbeats 400000 in
set_option maxRecDepth 100000 in
theorem kM_wipe (l : Launch) (dC : Nat → ClassId) (dI : Nat → Nat → Nat) (q : Nat → Nat) (cA : Nat → ClassId) (mt mq mw ms ml mf mx mo mi mg : Int → Int) (th mn mh ev cu fr oo : Int)  : mc_v l (dC, dI) vwCl (tM_ cA) (wM_ q cA) yX1_wipe wsX1_wipe ({ frames := 0, cells := 0, slots := 0, locals := 0 }) (mt, mq, mw, ms, ml, mf, mx, mo, mi, mg, th, mn, mh, ev, cu, fr, oo) [.ref (q 0)] (fun (u : SM_) => ∃ mt1 : Int → Int, (∀ j : Int, 0 ≤ j → j < 600 → mt1 j = 0) ∧ u = (mt1, mq, mw, ms, ml, mf, mx, mo, mi, mg, 0, 0, 0, 0, 0, 1, 0)) := by
  refine mc_v_of (cc := cX1_wipe) (maxL := 2) (ret := none) (by decide) rfl (Nat.le_of_ble_eq_true rfl) ?_
  intro p e s m below meth c A ls hE hml hown hts hr hlk hA hK hh hl
  have hown : s.vm.findClass RX1 = some m.cls := hown
  have hX : ∀ w ∈ wsM_, w.before _ s = true := fun w h => hts w (List.mem_cons_of_mem _ h)
  have hl : lv_has ls 2 [(0, .ref (q 0))] := hl
  have loop_7 : ∀ (n : Nat) (i : Int) (mt1 : Int → Int), (0 ≤ i) → (i ≤ 600) → (600 - i < (n : Int)) → (∀ j : Int, 0 ≤ j → j < i → mt1 j = 0) → ∀ (H : Heap) (locs : List Loc), hp_ (dC, dI) vwCl A s.heap (wM_ q cA (mt1, mq, mw, ms, ml, mf, mx, mo, mi, mg, 0, mn, mh, ev, cu, fr, oo)) H locs → ∀ (ls : Array Slot), lv_has ls 2 [(1, .int (zi_ i)), (0, .ref (q 0))] → W p l e ({ frames := 0, cells := 0, slots := 0, locals := 0 }) s m ([.ref (q 0)] : List Value).toArray below meth c H locs 0 0 (MQ below (mc_Qv (dC, dI) vwCl (tM_ cA) (wM_ q cA) (fun (u : SM_) => ∃ mt1 : Int → Int, (∀ j : Int, 0 ≤ j → j < 600 → mt1 j = 0) ∧ u = (mt1, mq, mw, ms, ml, mf, mx, mo, mi, mg, 0, 0, 0, 0, 0, 1, 0)) A) ([.ref (q 0)] : List Value).toArray s 0 0 A) (F0 m 7 ls []) := by
    intro n
    induction n with
    | zero => intros; exfalso; omega
    | succ n ih =>
      intro i mt1 h0 h1 hn hj H locs hh ls hl
      refine lv_iload_n hE.1 hE.2 dX1_wipe_7 rfl (lv_at hl 0 rfl) ?_
      refine zv_sipush hE dX1_wipe_8 (by decide) ?_
      refine zv_icmp_ge (tgt := 27) hE dX1_wipe_11 (by decide) ⟨by omega, by omega⟩ ⟨by omega, by omega⟩ (fun hc_1 => ?_) (fun hc_1 => ?_)
      · refine lv_aload_n hE.1 hE.2 dX1_wipe_27 rfl (lv_at hl 1 rfl) ?_
        refine zv_iconst hE dX1_wipe_28 ?_
        refine pM_many hE hX hown hK hh dX1_wipe_29 (fun H locs hh => ?_)
        refine lv_aload_n hE.1 hE.2 dX1_wipe_32 rfl (lv_at hl 1 rfl) ?_
        refine zv_iconst hE dX1_wipe_33 ?_
        refine pM_whole hE hX hown hK hh dX1_wipe_34 (fun H locs hh => ?_)
        refine lv_aload_n hE.1 hE.2 dX1_wipe_37 rfl (lv_at hl 1 rfl) ?_
        refine zv_iconst hE dX1_wipe_38 ?_
        refine pM_events hE hX hown hK hh dX1_wipe_39 (fun H locs hh => ?_)
        refine lv_aload_n hE.1 hE.2 dX1_wipe_42 rfl (lv_at hl 1 rfl) ?_
        refine zv_iconst hE dX1_wipe_43 ?_
        refine pM_cursor hE hX hown hK hh dX1_wipe_44 (fun H locs hh => ?_)
        refine lv_aload_n hE.1 hE.2 dX1_wipe_47 rfl (lv_at hl 1 rfl) ?_
        refine zv_iconst hE dX1_wipe_48 ?_
        refine pM_frames hE hX hown hK hh dX1_wipe_49 (fun H locs hh => ?_)
        refine lv_aload_n hE.1 hE.2 dX1_wipe_52 rfl (lv_at hl 1 rfl) ?_
        refine zv_iconst hE dX1_wipe_53 ?_
        refine pM_opens hE hX hown hK hh dX1_wipe_54 (fun H locs hh => ?_)
        refine mc_retv (u := (mt1, mq, mw, ms, ml, mf, mx, mo, mi, mg, 0, 0, 0, 0, 0, 1, 0)) hE hr hlk hK hh dX1_wipe_57 ?_
        exact ⟨mt1, fun j a b => hj j a (by omega), rfl⟩
      · refine lv_aload_n hE.1 hE.2 dX1_wipe_14 rfl (lv_at hl 1 rfl) ?_
        refine gM_there hE hX hown hK hh dX1_wipe_15 ?_
        refine lv_iload_n hE.1 hE.2 dX1_wipe_18 rfl (lv_at hl 0 rfl) ?_
        refine zv_iconst hE dX1_wipe_19 ?_
        refine sM_there hE hK hh ⟨by omega, by omega⟩ (by first | exact Or.inl rfl | exact Or.inr rfl | assumption) dX1_wipe_20 (fun H locs hh => ?_)
        refine zv_iinc (lv' := [(1, .int (zi_ (i + 1))), (0, .ref (q 0))]) hE dX1_wipe_21 hl (k := 0) rfl (by decide) rfl (fun ls hl => ?_)
        refine lv_goto (tgt := 7) hE.1 hE.2 dX1_wipe_24 (by decide) ?_
        exact ih (i + 1) (up_ mt1 i 0) (by omega) (by omega) (by omega) (fun j x y => if hq : j = i then (by rw [hq]; exact up_s _ _ _) else (by rw [up_n hq]; exact hj j x (by omega))) _ _ hh ls (lv_sub hl [0, 1] rfl)
  refine lv_aload_n hE.1 hE.2 dX1_wipe_0 rfl (lv_at hl 0 rfl) ?_
  refine zv_iconst hE dX1_wipe_1 ?_
  refine pM_thrown hE hX hown hK hh dX1_wipe_2 (fun H locs hh => ?_)
  refine zv_iconst hE dX1_wipe_5 ?_
  refine lv_istore_n (lv' := [(1, .int (zi_ 0)), (0, .ref (q 0))]) hE.1 hE.2 dX1_wipe_6 rfl hl (by decide) rfl (fun ls hl => ?_)
  exact loop_7 601 0 mt (by omega) (by omega) (by omega) (fun j x y => by omega) _ _ hh ls (lv_sub hl [0, 1] rfl)
set_option maxHeartbeats 400000 in
set_option maxRecDepth 100000 in
theorem kM_event (l : Launch) (dC : Nat → ClassId) (dI : Nat → Nat → Nat) (q : Nat → Nat) (cA : Nat → ClassId) (mt mq mw ms ml mf mx mo mi mg : Int → Int) (th mn mh ev cu fr oo : Int) (k : Int) (sa ea : Int → Int) (hI : im_ sa ea mt mq mw ms ml mf mx mo mi mn mh ev cu fr oo) (hk9 : zr_ k) : mc_i l (dC, dI) vwCl (tM_ cA) (wM_ q cA) yX1_event wsX1_event ({ frames := 3, cells := 0, slots := 0, locals := 140 }) (mt, mq, mw, ms, ml, mf, mx, mo, mi, mg, th, mn, mh, ev, cu, fr, oo) [.ref (q 0), .int (zi_ k)] (fun (z : Int) (u : SM_) => u = (mt, mq, mw, ms, ml, mf, mx, mo, mi, mg, 0, mn, mh, ev, cu, fr, oo) ∧ ((0 ≤ k ∧ k < ev ∧ z = ml k) ∨ ((k < 0 ∨ ev ≤ k) ∧ z = -1))) := by
  refine mc_i_of (cc := cX1_event) (maxL := 2) (ret := (some .int)) (by decide) rfl (Nat.le_of_ble_eq_true rfl) ?_
  intro p e s m below meth c A ls hE hml hown hts hr hlk hA hK hh hl
  have hown : s.vm.findClass RX1 = some m.cls := hown
  have hX : ∀ w ∈ wsM_, w.before _ s = true := fun w h => hts w (List.mem_cons_of_mem _ h)
  have hl : lv_has ls 2 [(0, .ref (q 0)), (1, .int (zi_ k))] := hl
  obtain ⟨hm0, hm1, hc1, hc2, hmi, hmo1, hx1b, hT, hlm, hmr⟩ := im_f hI
  obtain ⟨hw, hmt, hmn, hmn2, ⟨j0, hj0, hj1, hj2⟩, ⟨hf1, hf2, hm9⟩, hmf, hmx, ⟨hc0, hc3, hev, ho0, ho2⟩, hmo, hms, hmq, hmw, hmh, hl9⟩ := hI
  have ho1 : oo ≤ 600 := by omega
  refine lv_aload_n hE.1 hE.2 dX1_event_0 rfl (lv_at hl 0 rfl) ?_
  refine zv_iconst hE dX1_event_1 ?_
  refine pM_thrown hE hX hown hK hh dX1_event_2 (fun H locs hh => ?_)
  refine lv_iload_n hE.1 hE.2 dX1_event_5 rfl (lv_at hl 1 rfl) ?_
  refine zv_if_lt (tgt := 17) hE dX1_event_6 (by decide) ⟨by omega, by omega⟩ (fun hc_1 => ?_) (fun hc_1 => ?_)
  · refine zv_iconst hE dX1_event_17 ?_
    refine lv_goto (tgt := 27) hE.1 hE.2 dX1_event_18 (by decide) ?_
    refine mc_ret (u := (mt, mq, mw, ms, ml, mf, mx, mo, mi, mg, 0, mn, mh, ev, cu, fr, oo)) hE hr hlk hK hh dX1_event_27 ?_
    exact ⟨rfl, by omega⟩
  · refine lv_iload_n hE.1 hE.2 dX1_event_9 rfl (lv_at hl 1 rfl) ?_
    refine lv_aload_n hE.1 hE.2 dX1_event_10 rfl (lv_at hl 0 rfl) ?_
    refine gM_events hE hX hown hK hh dX1_event_11 ?_
    refine zv_icmp_lt (tgt := 21) hE dX1_event_14 (by decide) ⟨by omega, by omega⟩ ⟨by omega, by omega⟩ (fun hc_2 => ?_) (fun hc_2 => ?_)
    · refine lv_aload_n hE.1 hE.2 dX1_event_21 rfl (lv_at hl 0 rfl) ?_
      refine gM_line hE hX hown hK hh dX1_event_22 ?_
      refine lv_iload_n hE.1 hE.2 dX1_event_25 rfl (lv_at hl 1 rfl) ?_
      refine rM_line hE hK hh ⟨by omega, by omega⟩ dX1_event_26 ?_
      refine mc_ret (u := (mt, mq, mw, ms, ml, mf, mx, mo, mi, mg, 0, mn, mh, ev, cu, fr, oo)) hE hr hlk hK hh dX1_event_27 ?_
      exact ⟨rfl, by omega⟩
    · refine zv_iconst hE dX1_event_17 ?_
      refine lv_goto (tgt := 27) hE.1 hE.2 dX1_event_18 (by decide) ?_
      refine mc_ret (u := (mt, mq, mw, ms, ml, mf, mx, mo, mi, mg, 0, mn, mh, ev, cu, fr, oo)) hE hr hlk hK hh dX1_event_27 ?_
      exact ⟨rfl, by omega⟩
set_option maxHeartbeats 400000 in
set_option maxRecDepth 100000 in
theorem kM_look (l : Launch) (dC : Nat → ClassId) (dI : Nat → Nat → Nat) (q : Nat → Nat) (cA : Nat → ClassId) (mt mq mw ms ml mf mx mo mi mg : Int → Int) (th mn mh ev cu fr oo : Int) (wh : Int) (sa ea : Int → Int) (hI : im_ sa ea mt mq mw ms ml mf mx mo mi mn mh ev cu fr oo) (hk9 : zr_ wh) : mc_i l (dC, dI) vwCl (tM_ cA) (wM_ q cA) yX1_look wsX1_look ({ frames := 3, cells := 0, slots := 0, locals := 140 }) (mt, mq, mw, ms, ml, mf, mx, mo, mi, mg, th, mn, mh, ev, cu, fr, oo) [.ref (q 0), .int (zi_ wh)] (fun (z : Int) (u : SM_) => u = (mt, mq, mw, ms, ml, mf, mx, mo, mi, mg, 0, mn, mh, ev, cu, fr, oo) ∧ (wh = 0 → z = mn) ∧ (wh = 1 → z = ev) ∧ (wh = 2 → z = cu) ∧ (wh = 3 → z = fr) ∧ (wh = 4 → z = mh + sg_ (cw_ sa mw) 600) ∧ (wh = 5 → z = sg_ (cw_ sa ms) 600) ∧ (wh = 6 → z = mf (fr - 1)) ∧ (wh = 7 → (0 < oo ∧ mi (oo - 1) = fr - 1 → z = mo (oo - 1)) ∧ ((oo ≤ 0 ∨ mi (oo - 1) ≠ fr - 1) → z = -1)) ∧ (wh = 8 → (fr = 1 → z = 0) ∧ (1 < fr → z = 1 + mx (fr - 1))) ∧ (wh = 9 → z = (lm_ mf ea ev fr) - cu) ∧ (wh < 0 ∨ 9 < wh → z = -1)) := by
  refine mc_i_of (cc := cX1_look) (maxL := 4) (ret := (some .int)) (by decide) rfl (Nat.le_of_ble_eq_true rfl) ?_
  intro p e s m below meth c A ls hE hml hown hts hr hlk hA hK hh hl
  have hown : s.vm.findClass RX1 = some m.cls := hown
  have hX : ∀ w ∈ wsM_, w.before _ s = true := fun w h => hts w (List.mem_cons_of_mem _ h)
  have hl : lv_has ls 4 [(0, .ref (q 0)), (1, .int (zi_ wh))] := hl
  obtain ⟨hm0, hm1, hc1, hc2, hmi, hmo1, hx1b, hT, hlm, hmr⟩ := im_f hI
  obtain ⟨hw, hmt, hmn, hmn2, ⟨j0, hj0, hj1, hj2⟩, ⟨hf1, hf2, hm9⟩, hmf, hmx, ⟨hc0, hc3, hev, ho0, ho2⟩, hmo, hms, hmq, hmw, hmh, hl9⟩ := hI
  have ho1 : oo ≤ 600 := by omega
  have loop_9 : ∀ (n : Nat) (i sm1 : Int), (0 ≤ i) → (i ≤ 600) → (600 - i < (n : Int)) → (sm1 = sg_ (cw_ sa ms) i.toNat) → ∀ (H : Heap) (locs : List Loc), hp_ (dC, dI) vwCl A s.heap (wM_ q cA (mt, mq, mw, ms, ml, mf, mx, mo, mi, mg, 0, mn, mh, ev, cu, fr, oo)) H locs → ∀ (ls : Array Slot), lv_has ls 4 [(3, .int (zi_ i)), (2, .int (zi_ sm1)), (1, .int (zi_ wh)), (0, .ref (q 0))] → W p l e ({ frames := 3, cells := 0, slots := 0, locals := 140 }) s m ([.ref (q 0), .int (zi_ wh)] : List Value).toArray below meth c H locs 0 0 (MQ below (mc_Qi (dC, dI) vwCl (tM_ cA) (wM_ q cA) (fun (z : Int) (u : SM_) => u = (mt, mq, mw, ms, ml, mf, mx, mo, mi, mg, 0, mn, mh, ev, cu, fr, oo) ∧ (wh = 0 → z = mn) ∧ (wh = 1 → z = ev) ∧ (wh = 2 → z = cu) ∧ (wh = 3 → z = fr) ∧ (wh = 4 → z = mh + sg_ (cw_ sa mw) 600) ∧ (wh = 5 → z = sg_ (cw_ sa ms) 600) ∧ (wh = 6 → z = mf (fr - 1)) ∧ (wh = 7 → (0 < oo ∧ mi (oo - 1) = fr - 1 → z = mo (oo - 1)) ∧ ((oo ≤ 0 ∨ mi (oo - 1) ≠ fr - 1) → z = -1)) ∧ (wh = 8 → (fr = 1 → z = 0) ∧ (1 < fr → z = 1 + mx (fr - 1))) ∧ (wh = 9 → z = (lm_ mf ea ev fr) - cu) ∧ (wh < 0 ∨ 9 < wh → z = -1)) A) ([.ref (q 0), .int (zi_ wh)] : List Value).toArray s 0 0 A) (F0 m 9 ls []) := by
    intro n
    induction n with
    | zero => intros; exfalso; omega
    | succ n ih =>
      intro i sm1 h0 h1 hn hsum H locs hh ls hl
      have hs9 : i = 600 → sm1 = sg_ (cw_ sa ms) 600 := fun t => by rw [hsum, t]; rfl
      refine lv_iload_n hE.1 hE.2 dX1_look_9 rfl (lv_at hl 0 rfl) ?_
      refine zv_sipush hE dX1_look_10 (by decide) ?_
      refine zv_icmp_ge (tgt := 48) hE dX1_look_13 (by decide) ⟨by omega, by omega⟩ ⟨by omega, by omega⟩ (fun hc_1 => ?_) (fun hc_1 => ?_)
      · refine lv_iload_n hE.1 hE.2 dX1_look_48 rfl (lv_at hl 2 rfl) ?_
        rcases (show wh = 0 ∨ wh = 1 ∨ wh = 2 ∨ wh = 3 ∨ wh = 4 ∨ wh = 5 ∨ wh = 6 ∨ wh = 7 ∨ wh = 8 ∨ wh = 9 ∨ (wh < 0 ∨ 9 < wh) by omega) with hsw | hsw | hsw | hsw | hsw | hsw | hsw | hsw | hsw | hsw | hsw
        · subst hsw
          refine zv_tblIn (tgt := 104) hE dX1_look_49 ⟨by decide, by decide⟩ (by decide) (by decide) rfl (by decide) ?_
          refine lv_aload_n hE.1 hE.2 dX1_look_104 rfl (lv_at hl 3 rfl) ?_
          refine gM_many hE hX hown hK hh dX1_look_105 ?_
          refine mc_ret (u := (mt, mq, mw, ms, ml, mf, mx, mo, mi, mg, 0, mn, mh, ev, cu, fr, oo)) hE hr hlk hK hh dX1_look_108 ?_
          exact ⟨rfl, by omega, by omega, by omega, by omega, by omega, by omega, by omega, by omega, by omega, by omega, by omega⟩
        · subst hsw
          refine zv_tblIn (tgt := 109) hE dX1_look_49 ⟨by decide, by decide⟩ (by decide) (by decide) rfl (by decide) ?_
          refine lv_aload_n hE.1 hE.2 dX1_look_109 rfl (lv_at hl 3 rfl) ?_
          refine gM_events hE hX hown hK hh dX1_look_110 ?_
          refine mc_ret (u := (mt, mq, mw, ms, ml, mf, mx, mo, mi, mg, 0, mn, mh, ev, cu, fr, oo)) hE hr hlk hK hh dX1_look_113 ?_
          exact ⟨rfl, by omega, by omega, by omega, by omega, by omega, by omega, by omega, by omega, by omega, by omega, by omega⟩
        · subst hsw
          refine zv_tblIn (tgt := 114) hE dX1_look_49 ⟨by decide, by decide⟩ (by decide) (by decide) rfl (by decide) ?_
          refine lv_aload_n hE.1 hE.2 dX1_look_114 rfl (lv_at hl 3 rfl) ?_
          refine gM_cursor hE hX hown hK hh dX1_look_115 ?_
          refine mc_ret (u := (mt, mq, mw, ms, ml, mf, mx, mo, mi, mg, 0, mn, mh, ev, cu, fr, oo)) hE hr hlk hK hh dX1_look_118 ?_
          exact ⟨rfl, by omega, by omega, by omega, by omega, by omega, by omega, by omega, by omega, by omega, by omega, by omega⟩
        · subst hsw
          refine zv_tblIn (tgt := 119) hE dX1_look_49 ⟨by decide, by decide⟩ (by decide) (by decide) rfl (by decide) ?_
          refine lv_aload_n hE.1 hE.2 dX1_look_119 rfl (lv_at hl 3 rfl) ?_
          refine gM_frames hE hX hown hK hh dX1_look_120 ?_
          refine mc_ret (u := (mt, mq, mw, ms, ml, mf, mx, mo, mi, mg, 0, mn, mh, ev, cu, fr, oo)) hE hr hlk hK hh dX1_look_123 ?_
          exact ⟨rfl, by omega, by omega, by omega, by omega, by omega, by omega, by omega, by omega, by omega, by omega, by omega⟩
        · subst hsw
          refine zv_tblIn (tgt := 124) hE dX1_look_49 ⟨by decide, by decide⟩ (by decide) (by decide) rfl (by decide) ?_
          refine lv_aload_n hE.1 hE.2 dX1_look_124 rfl (lv_at hl 3 rfl) ?_
          refine mc_calll (rest := []) (As := []) hE hml hown hX hA hK hh (kM_allWeights l dC dI q cA mt mq mw ms ml mf mx mo mi mg 0 mn mh ev cu fr oo sa hmt hmh hmw) (cwV 0 hX qM_allWeights rfl rfl rfl (by decide +kernel) ⟨Nat.le_of_ble_eq_true rfl, Nat.le_of_ble_eq_true rfl⟩) rfl rfl hl.1 rfl (Nat.le_of_ble_eq_true rfl) dX1_look_125 ⟨Nat.zero_le _, Nat.zero_le _⟩ rfl (fun z_3 u H locs hq_2 hh => ?_)
          obtain ⟨rfl, rfl⟩ := hq_2
          refine zv_l2i hE dX1_look_128 ?_
          refine mc_ret (u := (mt, mq, mw, ms, ml, mf, mx, mo, mi, mg, 0, mn, mh, ev, cu, fr, oo)) hE hr hlk hK hh dX1_look_129 ?_
          exact ⟨rfl, by omega, by omega, by omega, by omega, by omega, by omega, by omega, by omega, by omega, by omega, by omega⟩
        · subst hsw
          refine zv_tblIn (tgt := 130) hE dX1_look_49 ⟨by decide, by decide⟩ (by decide) (by decide) rfl (by decide) ?_
          refine lv_iload_n hE.1 hE.2 dX1_look_130 rfl (lv_at hl 1 rfl) ?_
          refine mc_ret (u := (mt, mq, mw, ms, ml, mf, mx, mo, mi, mg, 0, mn, mh, ev, cu, fr, oo)) hE hr hlk hK hh dX1_look_131 ?_
          exact ⟨rfl, by omega, by omega, by omega, by omega, by omega, by omega, by omega, by omega, by omega, by omega, by omega⟩
        · subst hsw
          refine zv_tblIn (tgt := 132) hE dX1_look_49 ⟨by decide, by decide⟩ (by decide) (by decide) rfl (by decide) ?_
          refine lv_aload_n hE.1 hE.2 dX1_look_132 rfl (lv_at hl 3 rfl) ?_
          refine gM_frameOf hE hX hown hK hh dX1_look_133 ?_
          refine lv_aload_n hE.1 hE.2 dX1_look_136 rfl (lv_at hl 3 rfl) ?_
          refine mc_call (rest := [.ref (q 6)]) (As := []) hE hml hown hX hA hK hh (kM_last l dC dI q cA mt mq mw ms ml mf mx mo mi mg 0 mn mh ev cu fr oo) (cwV 0 hX qM_last rfl rfl rfl (by decide +kernel) ⟨Nat.le_of_ble_eq_true rfl, Nat.le_of_ble_eq_true rfl⟩) rfl rfl hl.1 rfl (Nat.le_of_ble_eq_true rfl) dX1_look_137 ⟨Nat.zero_le _, Nat.zero_le _⟩ rfl (fun z_5 u H locs hq_4 hh => ?_)
          obtain ⟨rfl, rfl⟩ := hq_4
          refine rM_frameOf hE hK hh ⟨by omega, by omega⟩ dX1_look_140 ?_
          refine mc_ret (u := (mt, mq, mw, ms, ml, mf, mx, mo, mi, mg, 0, mn, mh, ev, cu, fr, oo)) hE hr hlk hK hh dX1_look_141 ?_
          exact ⟨rfl, by omega, by omega, by omega, by omega, by omega, by omega, by omega, by omega, by omega, by omega, by omega⟩
        · subst hsw
          refine zv_tblIn (tgt := 142) hE dX1_look_49 ⟨by decide, by decide⟩ (by decide) (by decide) rfl (by decide) ?_
          refine lv_aload_n hE.1 hE.2 dX1_look_142 rfl (lv_at hl 3 rfl) ?_
          refine mc_call (rest := []) (As := []) hE hml hown hX hA hK hh (kM_hasOpen l dC dI q cA mt mq mw ms ml mf mx mo mi mg 0 mn mh ev cu fr oo ho0 ho1 hf1 hf2 hmi) (cwV 0 hX qM_hasOpen rfl rfl rfl (by decide +kernel) ⟨Nat.le_of_ble_eq_true rfl, Nat.le_of_ble_eq_true rfl⟩) rfl rfl hl.1 rfl (Nat.le_of_ble_eq_true rfl) dX1_look_143 ⟨Nat.zero_le _, Nat.zero_le _⟩ rfl (fun z_7 u H locs hq_6 hh => ?_)
          obtain ⟨rfl, hq_6a, hq_6b⟩ := hq_6
          have hq_6z : zr_ z_7 := ⟨by omega, by omega⟩
          refine zv_if_eq (tgt := 163) hE dX1_look_146 (by decide) ⟨by omega, by omega⟩ (fun hc_8 => ?_) (fun hc_8 => ?_)
          · refine zv_iconst hE dX1_look_163 ?_
            refine mc_ret (u := (mt, mq, mw, ms, ml, mf, mx, mo, mi, mg, 0, mn, mh, ev, cu, fr, oo)) hE hr hlk hK hh dX1_look_164 ?_
            exact ⟨rfl, by omega, by omega, by omega, by omega, by omega, by omega, by omega, by omega, by omega, by omega, by omega⟩
          · refine lv_aload_n hE.1 hE.2 dX1_look_149 rfl (lv_at hl 3 rfl) ?_
            refine gM_open hE hX hown hK hh dX1_look_150 ?_
            refine lv_aload_n hE.1 hE.2 dX1_look_153 rfl (lv_at hl 3 rfl) ?_
            refine gM_opens hE hX hown hK hh dX1_look_154 ?_
            refine zv_iconst hE dX1_look_157 ?_
            refine zv_isub hE dX1_look_158 ?_
            refine rM_open hE hK hh ⟨by omega, by omega⟩ dX1_look_159 ?_
            refine lv_goto (tgt := 164) hE.1 hE.2 dX1_look_160 (by decide) ?_
            refine mc_ret (u := (mt, mq, mw, ms, ml, mf, mx, mo, mi, mg, 0, mn, mh, ev, cu, fr, oo)) hE hr hlk hK hh dX1_look_164 ?_
            exact ⟨rfl, by omega, by omega, by omega, by omega, by omega, by omega, by omega, by omega, by omega, by omega, by omega⟩
        · subst hsw
          refine zv_tblIn (tgt := 165) hE dX1_look_49 ⟨by decide, by decide⟩ (by decide) (by decide) rfl (by decide) ?_
          refine lv_aload_n hE.1 hE.2 dX1_look_165 rfl (lv_at hl 3 rfl) ?_
          refine gM_frames hE hX hown hK hh dX1_look_166 ?_
          refine zv_iconst hE dX1_look_169 ?_
          refine zv_icmp_ne (tgt := 177) hE dX1_look_170 (by decide) ⟨by omega, by omega⟩ ⟨by omega, by omega⟩ (fun hc_9 => ?_) (fun hc_9 => ?_)
          · refine lv_aload_n hE.1 hE.2 dX1_look_177 rfl (lv_at hl 3 rfl) ?_
            refine gM_taken hE hX hown hK hh dX1_look_178 ?_
            refine lv_aload_n hE.1 hE.2 dX1_look_181 rfl (lv_at hl 3 rfl) ?_
            refine mc_call (rest := [.ref (q 7)]) (As := []) hE hml hown hX hA hK hh (kM_last l dC dI q cA mt mq mw ms ml mf mx mo mi mg 0 mn mh ev cu fr oo) (cwV 0 hX qM_last rfl rfl rfl (by decide +kernel) ⟨Nat.le_of_ble_eq_true rfl, Nat.le_of_ble_eq_true rfl⟩) rfl rfl hl.1 rfl (Nat.le_of_ble_eq_true rfl) dX1_look_182 ⟨Nat.zero_le _, Nat.zero_le _⟩ rfl (fun z_11 u H locs hq_10 hh => ?_)
            obtain ⟨rfl, rfl⟩ := hq_10
            refine rM_taken hE hK hh ⟨by omega, by omega⟩ dX1_look_185 ?_
            refine zv_if_eq (tgt := 193) hE dX1_look_186 (by decide) ⟨by omega, by omega⟩ (fun hc_12 => ?_) (fun hc_12 => ?_)
            · refine zv_iconst hE dX1_look_193 ?_
              refine mc_ret (u := (mt, mq, mw, ms, ml, mf, mx, mo, mi, mg, 0, mn, mh, ev, cu, fr, oo)) hE hr hlk hK hh dX1_look_194 ?_
              exact ⟨rfl, by omega, by omega, by omega, by omega, by omega, by omega, by omega, by omega, by omega, by omega, by omega⟩
            · refine zv_iconst hE dX1_look_189 ?_
              refine lv_goto (tgt := 194) hE.1 hE.2 dX1_look_190 (by decide) ?_
              refine mc_ret (u := (mt, mq, mw, ms, ml, mf, mx, mo, mi, mg, 0, mn, mh, ev, cu, fr, oo)) hE hr hlk hK hh dX1_look_194 ?_
              exact ⟨rfl, by omega, by omega, by omega, by omega, by omega, by omega, by omega, by omega, by omega, by omega, by omega⟩
          · refine zv_iconst hE dX1_look_173 ?_
            refine lv_goto (tgt := 194) hE.1 hE.2 dX1_look_174 (by decide) ?_
            refine mc_ret (u := (mt, mq, mw, ms, ml, mf, mx, mo, mi, mg, 0, mn, mh, ev, cu, fr, oo)) hE hr hlk hK hh dX1_look_194 ?_
            exact ⟨rfl, by omega, by omega, by omega, by omega, by omega, by omega, by omega, by omega, by omega, by omega, by omega⟩
        · subst hsw
          refine zv_tblIn (tgt := 195) hE dX1_look_49 ⟨by decide, by decide⟩ (by decide) (by decide) rfl (by decide) ?_
          refine lv_aload_n hE.1 hE.2 dX1_look_195 rfl (lv_at hl 3 rfl) ?_
          refine mc_call (rest := []) (As := []) hE hml hown hX hA hK hh (kM_limit l dC dI q cA mt mq mw ms ml mf mx mo mi mg 0 mn mh ev cu fr oo sa ea hw hf1 hf2 hm0 hm1) (cwV 0 hX qM_limit rfl rfl rfl (by decide +kernel) ⟨Nat.le_of_ble_eq_true rfl, Nat.le_of_ble_eq_true rfl⟩) rfl rfl hl.1 rfl (Nat.le_of_ble_eq_true rfl) dX1_look_196 ⟨Nat.zero_le _, Nat.zero_le _⟩ rfl (fun z_14 u H locs hq_13 hh => ?_)
          obtain ⟨rfl, rfl⟩ := hq_13
          refine lv_aload_n hE.1 hE.2 dX1_look_199 rfl (lv_at hl 3 rfl) ?_
          refine gM_cursor hE hX hown hK hh dX1_look_200 ?_
          refine zv_icmp_le (tgt := 218) hE dX1_look_203 (by decide) ⟨by omega, by omega⟩ ⟨by omega, by omega⟩ (fun hc_15 => ?_) (fun hc_15 => ?_)
          · refine zv_iconst hE dX1_look_218 ?_
            refine mc_ret (u := (mt, mq, mw, ms, ml, mf, mx, mo, mi, mg, 0, mn, mh, ev, cu, fr, oo)) hE hr hlk hK hh dX1_look_219 ?_
            exact ⟨rfl, by omega, by omega, by omega, by omega, by omega, by omega, by omega, by omega, by omega, by omega, by omega⟩
          · refine lv_aload_n hE.1 hE.2 dX1_look_206 rfl (lv_at hl 3 rfl) ?_
            refine mc_call (rest := []) (As := []) hE hml hown hX hA hK hh (kM_limit l dC dI q cA mt mq mw ms ml mf mx mo mi mg 0 mn mh ev cu fr oo sa ea hw hf1 hf2 hm0 hm1) (cwV 0 hX qM_limit rfl rfl rfl (by decide +kernel) ⟨Nat.le_of_ble_eq_true rfl, Nat.le_of_ble_eq_true rfl⟩) rfl rfl hl.1 rfl (Nat.le_of_ble_eq_true rfl) dX1_look_207 ⟨Nat.zero_le _, Nat.zero_le _⟩ rfl (fun z_17 u H locs hq_16 hh => ?_)
            obtain ⟨rfl, rfl⟩ := hq_16
            refine lv_aload_n hE.1 hE.2 dX1_look_210 rfl (lv_at hl 3 rfl) ?_
            refine gM_cursor hE hX hown hK hh dX1_look_211 ?_
            refine zv_isub hE dX1_look_214 ?_
            refine lv_goto (tgt := 219) hE.1 hE.2 dX1_look_215 (by decide) ?_
            refine mc_ret (u := (mt, mq, mw, ms, ml, mf, mx, mo, mi, mg, 0, mn, mh, ev, cu, fr, oo)) hE hr hlk hK hh dX1_look_219 ?_
            exact ⟨rfl, by omega, by omega, by omega, by omega, by omega, by omega, by omega, by omega, by omega, by omega, by omega⟩
        · refine zv_tblOut (tgt := 220) hE dX1_look_49 ⟨by omega, by omega⟩ hsw (by decide) ?_
          refine zv_iconst hE dX1_look_220 ?_
          refine mc_ret (u := (mt, mq, mw, ms, ml, mf, mx, mo, mi, mg, 0, mn, mh, ev, cu, fr, oo)) hE hr hlk hK hh dX1_look_221 ?_
          exact ⟨rfl, by omega, by omega, by omega, by omega, by omega, by omega, by omega, by omega, by omega, by omega, by omega⟩
      · refine lv_iload_n hE.1 hE.2 dX1_look_16 rfl (lv_at hl 1 rfl) ?_
        refine lv_aload_n hE.1 hE.2 dX1_look_17 rfl (lv_at hl 3 rfl) ?_
        refine gM_there hE hX hown hK hh dX1_look_18 ?_
        refine lv_iload_n hE.1 hE.2 dX1_look_21 rfl (lv_at hl 0 rfl) ?_
        have hb1 := hmt i (by omega) (by omega)
        have hb2 := hms i (by omega) (by omega)
        refine rM_there hE hK hh ⟨by omega, by omega⟩ dX1_look_22 ?_
        refine zv_if_eq (tgt := 39) hE dX1_look_23 (by decide) ⟨by omega, by omega⟩ (fun hc_18 => ?_) (fun hc_18 => ?_)
        · refine zv_iconst hE dX1_look_39 ?_
          refine zv_iadd hE dX1_look_40 ?_
          refine lv_istore_n (lv' := [(2, .int (zi_ (sm1 + 0))), (3, .int (zi_ i)), (1, .int (zi_ wh)), (0, .ref (q 0))]) hE.1 hE.2 dX1_look_41 rfl hl (by decide) rfl (fun ls hl => ?_)
          refine zv_iinc (lv' := [(3, .int (zi_ (i + 1))), (2, .int (zi_ (sm1 + 0))), (1, .int (zi_ wh)), (0, .ref (q 0))]) hE dX1_look_42 hl (k := 1) rfl (by decide) rfl (fun ls hl => ?_)
          refine lv_goto (tgt := 9) hE.1 hE.2 dX1_look_45 (by decide) ?_
          exact ih (i + 1) (sm1 + 0) (by omega) (by omega) (by omega) (by rw [sg_go _ h0, hsum]; unfold cw_; first | (rw [if_pos (by omega)]; done) | (rw [if_pos (by omega)]; omega) | (rw [if_neg (by omega)]; done) | (rw [if_neg (by omega)]; omega)) _ _ hh ls (lv_sub hl [0, 1, 2, 3] rfl)
        · refine lv_aload_n hE.1 hE.2 dX1_look_26 rfl (lv_at hl 3 rfl) ?_
          refine gM_isStale hE hX hown hK hh dX1_look_27 ?_
          refine lv_iload_n hE.1 hE.2 dX1_look_30 rfl (lv_at hl 0 rfl) ?_
          refine rM_isStale hE hK hh ⟨by omega, by omega⟩ dX1_look_31 ?_
          refine zv_if_eq (tgt := 39) hE dX1_look_32 (by decide) ⟨by omega, by omega⟩ (fun hc_19 => ?_) (fun hc_19 => ?_)
          · refine zv_iconst hE dX1_look_39 ?_
            refine zv_iadd hE dX1_look_40 ?_
            refine lv_istore_n (lv' := [(2, .int (zi_ (sm1 + 0))), (3, .int (zi_ i)), (1, .int (zi_ wh)), (0, .ref (q 0))]) hE.1 hE.2 dX1_look_41 rfl hl (by decide) rfl (fun ls hl => ?_)
            refine zv_iinc (lv' := [(3, .int (zi_ (i + 1))), (2, .int (zi_ (sm1 + 0))), (1, .int (zi_ wh)), (0, .ref (q 0))]) hE dX1_look_42 hl (k := 1) rfl (by decide) rfl (fun ls hl => ?_)
            refine lv_goto (tgt := 9) hE.1 hE.2 dX1_look_45 (by decide) ?_
            exact ih (i + 1) (sm1 + 0) (by omega) (by omega) (by omega) (by rw [sg_go _ h0, hsum]; unfold cw_; first | (rw [if_pos (by omega)]; done) | (rw [if_pos (by omega)]; omega) | (rw [if_neg (by omega)]; done) | (rw [if_neg (by omega)]; omega)) _ _ hh ls (lv_sub hl [0, 1, 2, 3] rfl)
          · refine zv_iconst hE dX1_look_35 ?_
            refine lv_goto (tgt := 40) hE.1 hE.2 dX1_look_36 (by decide) ?_
            refine zv_iadd hE dX1_look_40 ?_
            refine lv_istore_n (lv' := [(2, .int (zi_ (sm1 + 1))), (3, .int (zi_ i)), (1, .int (zi_ wh)), (0, .ref (q 0))]) hE.1 hE.2 dX1_look_41 rfl hl (by decide) rfl (fun ls hl => ?_)
            refine zv_iinc (lv' := [(3, .int (zi_ (i + 1))), (2, .int (zi_ (sm1 + 1))), (1, .int (zi_ wh)), (0, .ref (q 0))]) hE dX1_look_42 hl (k := 1) rfl (by decide) rfl (fun ls hl => ?_)
            refine lv_goto (tgt := 9) hE.1 hE.2 dX1_look_45 (by decide) ?_
            exact ih (i + 1) (sm1 + 1) (by omega) (by omega) (by omega) (by rw [sg_go _ h0, hsum]; unfold cw_; first | (rw [if_pos (by omega)]; done) | (rw [if_pos (by omega)]; omega) | (rw [if_neg (by omega)]; done) | (rw [if_neg (by omega)]; omega)) _ _ hh ls (lv_sub hl [0, 1, 2, 3] rfl)
  refine lv_aload_n hE.1 hE.2 dX1_look_0 rfl (lv_at hl 0 rfl) ?_
  refine zv_iconst hE dX1_look_1 ?_
  refine pM_thrown hE hX hown hK hh dX1_look_2 (fun H locs hh => ?_)
  refine zv_iconst hE dX1_look_5 ?_
  refine lv_istore_n (lv' := [(2, .int (zi_ 0)), (0, .ref (q 0)), (1, .int (zi_ wh))]) hE.1 hE.2 dX1_look_6 rfl hl (by decide) rfl (fun ls hl => ?_)
  refine zv_iconst hE dX1_look_7 ?_
  refine lv_istore_n (lv' := [(3, .int (zi_ 0)), (2, .int (zi_ 0)), (0, .ref (q 0)), (1, .int (zi_ wh))]) hE.1 hE.2 dX1_look_8 rfl hl (by decide) rfl (fun ls hl => ?_)
  exact loop_9 601 0 0 (by omega) (by omega) (by omega) rfl _ _ hh ls (lv_sub hl [0, 1, 3, 2] rfl)
set_option maxHeartbeats 400000 in
set_option maxRecDepth 100000 in
theorem kM_of (l : Launch) (dC : Nat → ClassId) (dI : Nat → Nat → Nat) (q : Nat → Nat) (cA : Nat → ClassId) (mt mq mw ms ml mf mx mo mi mg : Int → Int) (th mn mh ev cu fr oo : Int) (i wh : Int) (sa ea : Int → Int) (hI : im_ sa ea mt mq mw ms ml mf mx mo mi mn mh ev cu fr oo) (hk9 : zr_ i) (hk8 : zr_ wh) : mc_i l (dC, dI) vwCl (tM_ cA) (wM_ q cA) yX1_of wsX1_of ({ frames := 3, cells := 0, slots := 0, locals := 140 }) (mt, mq, mw, ms, ml, mf, mx, mo, mi, mg, th, mn, mh, ev, cu, fr, oo) [.ref (q 0), .int (zi_ i), .int (zi_ wh)] (fun (z : Int) (u : SM_) => ((i < 0 ∨ 600 ≤ i ∨ sa i = -1 ∨ wh < 0 ∨ 6 < wh) ∧ z = 0 ∧ u = (mt, mq, mw, ms, ml, mf, mx, mo, mi, mg, 1, mn, mh, ev, cu, fr, oo)) ∨ (0 ≤ i ∧ i < 600 ∧ sa i ≠ -1 ∧ 0 ≤ wh ∧ wh ≤ 6 ∧ u = (mt, mq, mw, ms, ml, mf, mx, mo, mi, mg, 0, mn, mh, ev, cu, fr, oo) ∧ (wh = 0 → z = mq i) ∧ (wh = 1 → z = mw i) ∧ (wh = 2 → (ea i = -1 → z = 0) ∧ (ea i ≠ -1 → z = 1 + ms i)) ∧ (wh = 3 → z = sa i) ∧ (wh = 4 → z = ea i) ∧ (wh = 5 → fl_ (fun k => ml k % 2 = 0 ∧ sa i < ut_ ea ev (ml k / 2)) (fun k => ml k / 2) 0 (sa i) z) ∧ (wh = 6 → z = mw i + st_ (we_ ml mw) (sa i + 1) (ut_ ea ev i - (sa i + 1)).toNat))) := by
  refine mc_i_of (cc := cX1_of) (maxL := 3) (ret := (some .int)) (by decide) rfl (Nat.le_of_ble_eq_true rfl) ?_
  intro p e s m below meth c A ls hE hml hown hts hr hlk hA hK hh hl
  have hown : s.vm.findClass RX1 = some m.cls := hown
  have hX : ∀ w ∈ wsM_, w.before _ s = true := fun w h => hts w (List.mem_cons_of_mem _ h)
  have hl : lv_has ls 3 [(0, .ref (q 0)), (1, .int (zi_ i)), (2, .int (zi_ wh))] := hl
  obtain ⟨hm0, hm1, hc1, hc2, hmi, hmo1, hx1b, hT, hlm, hmr⟩ := im_f hI
  obtain ⟨hw, hmt, hmn, hmn2, ⟨j0, hj0, hj1, hj2⟩, ⟨hf1, hf2, hm9⟩, hmf, hmx, ⟨hc0, hc3, hev, ho0, ho2⟩, hmo, hms, hmq, hmw, hmh, hl9⟩ := hI
  have ho1 : oo ≤ 600 := by omega
  refine lv_aload_n hE.1 hE.2 dX1_of_0 rfl (lv_at hl 0 rfl) ?_
  refine lv_aload_n hE.1 hE.2 dX1_of_1 rfl (lv_at hl 0 rfl) ?_
  refine lv_iload_n hE.1 hE.2 dX1_of_2 rfl (lv_at hl 1 rfl) ?_
  refine mc_call (rest := [.ref (q 0)]) (As := [.int (zi_ i)]) hE hml hown hX hA hK hh (kM_isThere l dC dI q cA mt mq mw ms ml mf mx mo mi mg th mn mh ev cu fr oo i sa (by assumption) hmt) (cwV 1 hX qM_isThere rfl rfl rfl (by decide +kernel) ⟨Nat.le_of_ble_eq_true rfl, Nat.le_of_ble_eq_true rfl⟩) rfl rfl hl.1 rfl (Nat.le_of_ble_eq_true rfl) dX1_of_3 ⟨Nat.zero_le _, Nat.zero_le _⟩ rfl (fun z_2 u H locs hq_1 hh => ?_)
  obtain ⟨rfl, hq_1a, hq_1b⟩ := hq_1
  have hq_1z : zr_ z_2 := ⟨by omega, by omega⟩
  refine zv_if_eq (tgt := 23) hE dX1_of_6 (by decide) ⟨by omega, by omega⟩ (fun hc_3 => ?_) (fun hc_3 => ?_)
  · refine zv_iconst hE dX1_of_23 ?_
    refine pM_thrown hE hX hown hK hh dX1_of_24 (fun H locs hh => ?_)
    refine lv_aload_n hE.1 hE.2 dX1_of_27 rfl (lv_at hl 0 rfl) ?_
    refine gM_thrown hE hX hown hK hh dX1_of_28 ?_
    refine zv_if_le (tgt := 36) hE dX1_of_31 (by decide) ⟨by omega, by omega⟩ (fun hc_4 => ?_) (fun hc_4 => ?_)
    · exact absurd hc_4 (by decide)
    · refine zv_iconst hE dX1_of_34 ?_
      refine mc_ret (u := (mt, mq, mw, ms, ml, mf, mx, mo, mi, mg, 1, mn, mh, ev, cu, fr, oo)) hE hr hlk hK hh dX1_of_35 ?_
      first | exact Or.inl ⟨by omega, rfl, rfl⟩ | exact Or.inr ⟨by omega, by omega, by omega, by omega, by omega, rfl, by omega, by omega, by omega, by omega, by omega, (fun t => by first | assumption | (exfalso; omega)), by omega⟩ | (exfalso; omega)
  · refine lv_iload_n hE.1 hE.2 dX1_of_9 rfl (lv_at hl 2 rfl) ?_
    refine zv_if_lt (tgt := 23) hE dX1_of_10 (by decide) ⟨by omega, by omega⟩ (fun hc_5 => ?_) (fun hc_5 => ?_)
    · refine zv_iconst hE dX1_of_23 ?_
      refine pM_thrown hE hX hown hK hh dX1_of_24 (fun H locs hh => ?_)
      refine lv_aload_n hE.1 hE.2 dX1_of_27 rfl (lv_at hl 0 rfl) ?_
      refine gM_thrown hE hX hown hK hh dX1_of_28 ?_
      refine zv_if_le (tgt := 36) hE dX1_of_31 (by decide) ⟨by omega, by omega⟩ (fun hc_6 => ?_) (fun hc_6 => ?_)
      · exact absurd hc_6 (by decide)
      · refine zv_iconst hE dX1_of_34 ?_
        refine mc_ret (u := (mt, mq, mw, ms, ml, mf, mx, mo, mi, mg, 1, mn, mh, ev, cu, fr, oo)) hE hr hlk hK hh dX1_of_35 ?_
        first | exact Or.inl ⟨by omega, rfl, rfl⟩ | exact Or.inr ⟨by omega, by omega, by omega, by omega, by omega, rfl, by omega, by omega, by omega, by omega, by omega, (fun t => by first | assumption | (exfalso; omega)), by omega⟩ | (exfalso; omega)
    · refine lv_iload_n hE.1 hE.2 dX1_of_13 rfl (lv_at hl 2 rfl) ?_
      refine zv_bipush hE dX1_of_14 (by decide) ?_
      refine zv_icmp_gt (tgt := 23) hE dX1_of_16 (by decide) ⟨by omega, by omega⟩ ⟨by omega, by omega⟩ (fun hc_7 => ?_) (fun hc_7 => ?_)
      · refine zv_iconst hE dX1_of_23 ?_
        refine pM_thrown hE hX hown hK hh dX1_of_24 (fun H locs hh => ?_)
        refine lv_aload_n hE.1 hE.2 dX1_of_27 rfl (lv_at hl 0 rfl) ?_
        refine gM_thrown hE hX hown hK hh dX1_of_28 ?_
        refine zv_if_le (tgt := 36) hE dX1_of_31 (by decide) ⟨by omega, by omega⟩ (fun hc_8 => ?_) (fun hc_8 => ?_)
        · exact absurd hc_8 (by decide)
        · refine zv_iconst hE dX1_of_34 ?_
          refine mc_ret (u := (mt, mq, mw, ms, ml, mf, mx, mo, mi, mg, 1, mn, mh, ev, cu, fr, oo)) hE hr hlk hK hh dX1_of_35 ?_
          first | exact Or.inl ⟨by omega, rfl, rfl⟩ | exact Or.inr ⟨by omega, by omega, by omega, by omega, by omega, rfl, by omega, by omega, by omega, by omega, by omega, (fun t => by first | assumption | (exfalso; omega)), by omega⟩ | (exfalso; omega)
      · refine zv_iconst hE dX1_of_19 ?_
        refine lv_goto (tgt := 24) hE.1 hE.2 dX1_of_20 (by decide) ?_
        refine pM_thrown hE hX hown hK hh dX1_of_24 (fun H locs hh => ?_)
        refine lv_aload_n hE.1 hE.2 dX1_of_27 rfl (lv_at hl 0 rfl) ?_
        refine gM_thrown hE hX hown hK hh dX1_of_28 ?_
        refine zv_if_le (tgt := 36) hE dX1_of_31 (by decide) ⟨by omega, by omega⟩ (fun hc_9 => ?_) (fun hc_9 => ?_)
        · refine lv_iload_n hE.1 hE.2 dX1_of_36 rfl (lv_at hl 2 rfl) ?_
          rcases (show wh = 0 ∨ wh = 1 ∨ wh = 2 ∨ wh = 3 ∨ wh = 4 ∨ wh = 5 ∨ (wh < 0 ∨ 5 < wh) by omega) with hsw | hsw | hsw | hsw | hsw | hsw | hsw
          · subst hsw
            refine zv_tblIn (tgt := 76) hE dX1_of_37 ⟨by decide, by decide⟩ (by decide) (by decide) rfl (by decide) ?_
            refine lv_aload_n hE.1 hE.2 dX1_of_76 rfl (lv_at hl 0 rfl) ?_
            refine gM_keys hE hX hown hK hh dX1_of_77 ?_
            refine lv_iload_n hE.1 hE.2 dX1_of_80 rfl (lv_at hl 1 rfl) ?_
            refine rM_keys hE hK hh ⟨by omega, by omega⟩ dX1_of_81 ?_
            refine mc_ret (u := (mt, mq, mw, ms, ml, mf, mx, mo, mi, mg, 0, mn, mh, ev, cu, fr, oo)) hE hr hlk hK hh dX1_of_82 ?_
            first | exact Or.inl ⟨by omega, rfl, rfl⟩ | exact Or.inr ⟨by omega, by omega, by omega, by omega, by omega, rfl, by omega, by omega, by omega, by omega, by omega, (fun t => by first | assumption | (exfalso; omega)), by omega⟩ | (exfalso; omega)
          · subst hsw
            refine zv_tblIn (tgt := 83) hE dX1_of_37 ⟨by decide, by decide⟩ (by decide) (by decide) rfl (by decide) ?_
            refine lv_aload_n hE.1 hE.2 dX1_of_83 rfl (lv_at hl 0 rfl) ?_
            refine gM_weights hE hX hown hK hh dX1_of_84 ?_
            refine lv_iload_n hE.1 hE.2 dX1_of_87 rfl (lv_at hl 1 rfl) ?_
            refine rM_weights hE hK hh ⟨by omega, by omega⟩ dX1_of_88 ?_
            refine mc_ret (u := (mt, mq, mw, ms, ml, mf, mx, mo, mi, mg, 0, mn, mh, ev, cu, fr, oo)) hE hr hlk hK hh dX1_of_89 ?_
            first | exact Or.inl ⟨by omega, rfl, rfl⟩ | exact Or.inr ⟨by omega, by omega, by omega, by omega, by omega, rfl, by omega, by omega, by omega, by omega, by omega, (fun t => by first | assumption | (exfalso; omega)), by omega⟩ | (exfalso; omega)
          · subst hsw
            refine zv_tblIn (tgt := 90) hE dX1_of_37 ⟨by decide, by decide⟩ (by decide) (by decide) rfl (by decide) ?_
            refine lv_aload_n hE.1 hE.2 dX1_of_90 rfl (lv_at hl 0 rfl) ?_
            refine lv_iload_n hE.1 hE.2 dX1_of_91 rfl (lv_at hl 1 rfl) ?_
            refine mc_call (rest := []) (As := [.int (zi_ i)]) hE hml hown hX hA hK hh (kM_isEnded l dC dI q cA mt mq mw ms ml mf mx mo mi mg 0 mn mh ev cu fr oo i sa ea hw (by omega) (by omega) (by first | assumption | omega)) (cwV 1 hX qM_isEnded rfl rfl rfl (by decide +kernel) ⟨Nat.le_of_ble_eq_true rfl, Nat.le_of_ble_eq_true rfl⟩) rfl rfl hl.1 rfl (Nat.le_of_ble_eq_true rfl) dX1_of_92 ⟨Nat.zero_le _, Nat.zero_le _⟩ rfl (fun z_11 u H locs hq_10 hh => ?_)
            obtain ⟨rfl, hq_10a, hq_10b⟩ := hq_10
            have hq_10z : zr_ z_11 := ⟨by omega, by omega⟩
            refine zv_if_ne (tgt := 102) hE dX1_of_95 (by decide) ⟨by omega, by omega⟩ (fun hc_12 => ?_) (fun hc_12 => ?_)
            · refine lv_aload_n hE.1 hE.2 dX1_of_102 rfl (lv_at hl 0 rfl) ?_
              refine gM_isStale hE hX hown hK hh dX1_of_103 ?_
              refine lv_iload_n hE.1 hE.2 dX1_of_106 rfl (lv_at hl 1 rfl) ?_
              have hx4 := hms i (by omega) (by omega)
              refine rM_isStale hE hK hh ⟨by omega, by omega⟩ dX1_of_107 ?_
              refine zv_if_eq (tgt := 115) hE dX1_of_108 (by decide) ⟨by omega, by omega⟩ (fun hc_13 => ?_) (fun hc_13 => ?_)
              · refine zv_iconst hE dX1_of_115 ?_
                refine mc_ret (u := (mt, mq, mw, ms, ml, mf, mx, mo, mi, mg, 0, mn, mh, ev, cu, fr, oo)) hE hr hlk hK hh dX1_of_116 ?_
                first | exact Or.inl ⟨by omega, rfl, rfl⟩ | exact Or.inr ⟨by omega, by omega, by omega, by omega, by omega, rfl, by omega, by omega, by omega, by omega, by omega, (fun t => by first | assumption | (exfalso; omega)), by omega⟩ | (exfalso; omega)
              · refine zv_iconst hE dX1_of_111 ?_
                refine lv_goto (tgt := 116) hE.1 hE.2 dX1_of_112 (by decide) ?_
                refine mc_ret (u := (mt, mq, mw, ms, ml, mf, mx, mo, mi, mg, 0, mn, mh, ev, cu, fr, oo)) hE hr hlk hK hh dX1_of_116 ?_
                first | exact Or.inl ⟨by omega, rfl, rfl⟩ | exact Or.inr ⟨by omega, by omega, by omega, by omega, by omega, rfl, by omega, by omega, by omega, by omega, by omega, (fun t => by first | assumption | (exfalso; omega)), by omega⟩ | (exfalso; omega)
            · refine zv_iconst hE dX1_of_98 ?_
              refine lv_goto (tgt := 116) hE.1 hE.2 dX1_of_99 (by decide) ?_
              refine mc_ret (u := (mt, mq, mw, ms, ml, mf, mx, mo, mi, mg, 0, mn, mh, ev, cu, fr, oo)) hE hr hlk hK hh dX1_of_116 ?_
              first | exact Or.inl ⟨by omega, rfl, rfl⟩ | exact Or.inr ⟨by omega, by omega, by omega, by omega, by omega, rfl, by omega, by omega, by omega, by omega, by omega, (fun t => by first | assumption | (exfalso; omega)), by omega⟩ | (exfalso; omega)
          · subst hsw
            refine zv_tblIn (tgt := 117) hE dX1_of_37 ⟨by decide, by decide⟩ (by decide) (by decide) rfl (by decide) ?_
            refine lv_aload_n hE.1 hE.2 dX1_of_117 rfl (lv_at hl 0 rfl) ?_
            refine zv_iconst hE dX1_of_118 ?_
            refine lv_iload_n hE.1 hE.2 dX1_of_119 rfl (lv_at hl 1 rfl) ?_
            refine zv_imul hE dX1_of_120 ?_
            refine mc_call (rest := []) (As := [.int (zi_ (2 * i))]) hE hml hown hX hA hK hh (kM_find l dC dI q cA mt mq mw ms ml mf mx mo mi mg 0 mn mh ev cu fr oo (2 * i) (hw.1.1) (hw.1.2) (fun k x y => ⟨(hw.2.2.2 k x y).1, (hw.2.2.2 k x y).2.1⟩) (by exact ⟨by omega, by omega⟩)) (cwV 1 hX qM_find rfl rfl rfl (by decide +kernel) ⟨Nat.le_of_ble_eq_true rfl, Nat.le_of_ble_eq_true rfl⟩) rfl rfl hl.1 rfl (Nat.le_of_ble_eq_true rfl) dX1_of_121 ⟨Nat.zero_le _, Nat.zero_le _⟩ rfl (fun z_15 u H locs hq_14 hh => ?_)
            obtain ⟨rfl, hq_14⟩ := hq_14
            obtain rfl := fd_s hw (by omega) (by omega) hq_14
            refine mc_ret (u := (mt, mq, mw, ms, ml, mf, mx, mo, mi, mg, 0, mn, mh, ev, cu, fr, oo)) hE hr hlk hK hh dX1_of_124 ?_
            first | exact Or.inl ⟨by omega, rfl, rfl⟩ | exact Or.inr ⟨by omega, by omega, by omega, by omega, by omega, rfl, by omega, by omega, by omega, by omega, by omega, (fun t => by first | assumption | (exfalso; omega)), by omega⟩ | (exfalso; omega)
          · subst hsw
            refine zv_tblIn (tgt := 125) hE dX1_of_37 ⟨by decide, by decide⟩ (by decide) (by decide) rfl (by decide) ?_
            refine lv_aload_n hE.1 hE.2 dX1_of_125 rfl (lv_at hl 0 rfl) ?_
            refine zv_iconst hE dX1_of_126 ?_
            refine lv_iload_n hE.1 hE.2 dX1_of_127 rfl (lv_at hl 1 rfl) ?_
            refine zv_imul hE dX1_of_128 ?_
            refine zv_iconst hE dX1_of_129 ?_
            refine zv_iadd hE dX1_of_130 ?_
            refine mc_call (rest := []) (As := [.int (zi_ ((2 * i) + 1))]) hE hml hown hX hA hK hh (kM_find l dC dI q cA mt mq mw ms ml mf mx mo mi mg 0 mn mh ev cu fr oo ((2 * i) + 1) (hw.1.1) (hw.1.2) (fun k x y => ⟨(hw.2.2.2 k x y).1, (hw.2.2.2 k x y).2.1⟩) (by exact ⟨by omega, by omega⟩)) (cwV 1 hX qM_find rfl rfl rfl (by decide +kernel) ⟨Nat.le_of_ble_eq_true rfl, Nat.le_of_ble_eq_true rfl⟩) rfl rfl hl.1 rfl (Nat.le_of_ble_eq_true rfl) dX1_of_131 ⟨Nat.zero_le _, Nat.zero_le _⟩ rfl (fun z_17 u H locs hq_16 hh => ?_)
            obtain ⟨rfl, hq_16⟩ := hq_16
            obtain rfl := fd_e hw (by omega) (by omega) (by first | assumption | omega) hq_16
            refine mc_ret (u := (mt, mq, mw, ms, ml, mf, mx, mo, mi, mg, 0, mn, mh, ev, cu, fr, oo)) hE hr hlk hK hh dX1_of_134 ?_
            first | exact Or.inl ⟨by omega, rfl, rfl⟩ | exact Or.inr ⟨by omega, by omega, by omega, by omega, by omega, rfl, by omega, by omega, by omega, by omega, by omega, (fun t => by first | assumption | (exfalso; omega)), by omega⟩ | (exfalso; omega)
          · subst hsw
            refine zv_tblIn (tgt := 135) hE dX1_of_37 ⟨by decide, by decide⟩ (by decide) (by decide) rfl (by decide) ?_
            refine lv_aload_n hE.1 hE.2 dX1_of_135 rfl (lv_at hl 0 rfl) ?_
            refine lv_iload_n hE.1 hE.2 dX1_of_136 rfl (lv_at hl 1 rfl) ?_
            refine mc_call (rest := []) (As := [.int (zi_ i)]) hE hml hown hX hA hK hh (kM_around l dC dI q cA mt mq mw ms ml mf mx mo mi mg 0 mn mh ev cu fr oo i sa ea hw (by omega) (by omega) (by omega)) (cwV 1 hX qM_around rfl rfl rfl (by decide +kernel) ⟨Nat.le_of_ble_eq_true rfl, Nat.le_of_ble_eq_true rfl⟩) rfl rfl hl.1 rfl (Nat.le_of_ble_eq_true rfl) dX1_of_137 ⟨Nat.zero_le _, Nat.zero_le _⟩ rfl (fun z_19 u H locs hq_18 hh => ?_)
            obtain ⟨rfl, hq_18⟩ := hq_18
            refine mc_ret (u := (mt, mq, mw, ms, ml, mf, mx, mo, mi, mg, 0, mn, mh, ev, cu, fr, oo)) hE hr hlk hK hh dX1_of_140 ?_
            first | exact Or.inl ⟨by omega, rfl, rfl⟩ | exact Or.inr ⟨by omega, by omega, by omega, by omega, by omega, rfl, by omega, by omega, by omega, by omega, by omega, (fun t => by first | assumption | (exfalso; omega)), by omega⟩ | (exfalso; omega)
          · refine zv_tblOut (tgt := 141) hE dX1_of_37 ⟨by omega, by omega⟩ hsw (by decide) ?_
            refine lv_aload_n hE.1 hE.2 dX1_of_141 rfl (lv_at hl 0 rfl) ?_
            refine lv_iload_n hE.1 hE.2 dX1_of_142 rfl (lv_at hl 1 rfl) ?_
            refine mc_call (rest := []) (As := [.int (zi_ i)]) hE hml hown hX hA hK hh (kM_sumOf l dC dI q cA mt mq mw ms ml mf mx mo mi mg 0 mn mh ev cu fr oo i sa ea hw (by omega) (by omega) (by omega)) (cwV 1 hX qM_sumOf rfl rfl rfl (by decide +kernel) ⟨Nat.le_of_ble_eq_true rfl, Nat.le_of_ble_eq_true rfl⟩) rfl rfl hl.1 rfl (Nat.le_of_ble_eq_true rfl) dX1_of_143 ⟨Nat.zero_le _, Nat.zero_le _⟩ rfl (fun z_21 u H locs hq_20 hh => ?_)
            obtain ⟨rfl, hq_20⟩ := hq_20
            refine mc_ret (u := (mt, mq, mw, ms, ml, mf, mx, mo, mi, mg, 0, mn, mh, ev, cu, fr, oo)) hE hr hlk hK hh dX1_of_146 ?_
            first | exact Or.inl ⟨by omega, rfl, rfl⟩ | exact Or.inr ⟨by omega, by omega, by omega, by omega, by omega, rfl, by omega, by omega, by omega, by omega, by omega, (fun t => by first | assumption | (exfalso; omega)), by omega⟩ | (exfalso; omega)
        · exact absurd hc_9 (by decide)
end
section
/-- places are moved, in their order -/
def mv2_ (sa ea : Int → Int) (cu : Int) (r : Int → Int) (sa' ea' : Int → Int) (cu' : Int) : Prop :=
  cu' = r cu ∧
  ∀ j : Int, 0 ≤ j → j < 600 → sa' j ≠ -1 → sa j ≠ -1 ∧ sa' j = r (sa j) ∧ (ea j = -1 → ea' j = -1) ∧ (ea j ≠ -1 → ea' j = r (ea j) ∧ ea' j ≠ -1) ∧
    (∀ q : Int, 0 ≤ q → (sa j < q ↔ r (sa j) < r q)) ∧ (ea j ≠ -1 → ∀ q : Int, 0 ≤ q → (ea j < q ↔ r (ea j) < r q))
theorem nv_move2 {sa ea sa' ea' r fi fo op : Int → Int} {cu cu' fr oo : Int} (h : nv_ sa ea cu fi fo fr op oo) (hm : mv2_ sa ea cu r sa' ea' cu') (h0 : ∀ j : Int, 0 ≤ j → j < 600 → sa j ≠ -1 → 0 ≤ sa j ∧ (ea j ≠ -1 → 0 ≤ ea j)) (hc : 0 ≤ cu)
    (hfe : ∀ f : Int, 1 ≤ f → f < fr → r (ea (fi f) + 1) = r (ea (fi f)) + 1) (hf : ∀ f : Int, 1 ≤ f → f < fr → sa' (fi f) ≠ -1) (ho : ∀ t : Int, 0 ≤ t → t < oo → sa' (op t) ≠ -1) : nv_ sa' ea' cu' fi fo fr op oo := by
  obtain ⟨n1, n2, n3, n4, n5, n6, n7⟩ := h
  obtain ⟨m1, m2⟩ := hm
  subst m1
  refine ⟨fun a b a0 a1 b0 b1 sa1 sb1 ea1 eb1 x y => ?_, fun f f0 f1 => ?_, fun f f0 f1 => ?_, fun f1 => ?_, fun t t0 t1 => ?_, fun t t' t0 t1 t2 => ?_, fun f t f0 f1 t0 t1 t2 t3 b b0 b1 sb eb => ?_⟩
  · obtain ⟨p1, p2, p3, p4, p5, p6⟩ := m2 a a0 a1 sa1
    obtain ⟨q1, q2, q3, q4, q5, q6⟩ := m2 b b0 b1 sb1
    have ha : ea a ≠ -1 := fun z => ea1 (p3 z)
    have hb : ea b ≠ -1 := fun z => eb1 (q3 z)
    have e1 := (p4 ha).1
    have e2 := (q4 hb).1
    have z1 := h0 a a0 a1 p1
    have z2 := h0 b b0 b1 q1
    have x1 := (p5 (sa b) z2.1).mpr (by omega)
    have x2 := (q5 (ea a) (z1.2 ha)).mpr (by omega)
    have x3 := n1 a b a0 a1 b0 b1 p1 q1 ha hb x1 x2
    have x4 := (q6 hb (ea a) (z1.2 ha)).mp x3
    omega
  · obtain ⟨p1, p2, p3, p4⟩ := n2 f f0 f1
    obtain ⟨q1, q2, q3, q4, q5, q6⟩ := m2 (fi f) p1 p2 (hf f f0 f1)
    exact ⟨p1, p2, hf f f0 f1, (q4 p4).2⟩
  · obtain ⟨p1, p2, p3, p4⟩ := n2 f f0 (by omega)
    obtain ⟨q1, q2, q3, q4⟩ := n2 (f + 1) (by omega) f1
    obtain ⟨u1, u2, u3, u4, u5, u6⟩ := m2 (fi f) p1 p2 (hf f f0 (by omega))
    obtain ⟨v1, v2, v3, v4, v5, v6⟩ := m2 (fi (f + 1)) q1 q2 (hf (f + 1) (by omega) f1)
    have w := n3 f f0 f1
    have z1 := h0 (fi f) p1 p2 p3
    have z2 := h0 (fi (f + 1)) q1 q2 q3
    have x1 := (u5 (sa (fi (f + 1))) z2.1).mp w.1
    have x2 := (v6 q4 (ea (fi f)) (z1.2 p4)).mp w.2
    have e1 := (u4 p4).1
    have e2 := (v4 q4).1
    omega
  · have w := n4 f1
    obtain ⟨p1, p2, p3, p4⟩ := n2 (fr - 1) (by omega) (by omega)
    obtain ⟨u1, u2, u3, u4, u5, u6⟩ := m2 (fi (fr - 1)) p1 p2 (hf (fr - 1) (by omega) (by omega))
    have x1 := (u5 cu hc).mp w.1
    have e1 := (u4 p4).1
    refine ⟨by omega, ?_⟩
    apply Int.not_lt.mp
    intro z
    have := (u6 p4 cu hc).mpr (by omega)
    omega
  · obtain ⟨p1, p2, p3, p4, p5⟩ := n5 t t0 t1
    obtain ⟨u1, u2, u3, u4, u5, u6⟩ := m2 (op t) p1 p2 (ho t t0 t1)
    have x1 := (u5 cu hc).mp p5
    exact ⟨p1, p2, ho t t0 t1, u3 p4, by omega⟩
  · obtain ⟨p1, p2, p3, p4, p5⟩ := n5 t t0 (by omega)
    obtain ⟨u1, u2, u3, u4, u5, u6⟩ := m2 (op t) p1 p2 (ho t t0 (by omega))
    obtain ⟨q1, q2, q3, q4, q5⟩ := n5 t' (by omega) t2
    obtain ⟨v1, v2, v3, v4, v5, v6⟩ := m2 (op t') q1 q2 (ho t' (by omega) t2)
    have x1 := (u5 (sa (op t')) (h0 _ q1 q2 q3).1).mp (n6 t t' t0 t1 t2)
    omega
  · obtain ⟨p1, p2, p3, p4, p5⟩ := n5 t t1 t2
    obtain ⟨u1, u2, u3, u4, u5, u6⟩ := m2 (op t) p1 p2 (ho t t1 t2)
    obtain ⟨v1, v2, v3, v4, v5, v6⟩ := m2 b b0 b1 sb
    have hb : ea b ≠ -1 := fun z => eb (v3 z)
    have w := n7 f t f0 f1 t0 t1 t2 t3 b b0 b1 v1 hb
    have z2 := h0 b b0 b1 v1
    have z1 := h0 (op t) p1 p2 p3
    have hcl : cl_ ea' (r cu) fi fr f = r (cl_ ea cu fi fr f) ∧ 0 ≤ cl_ ea cu fi fr f := by
      unfold cl_
      by_cases hq : f + 1 < fr
      · rw [if_pos hq, if_pos hq]
        obtain ⟨q1, q2, q3, q4⟩ := n2 (f + 1) (by omega) hq
        obtain ⟨y1, y2, y3, y4, y5, y6⟩ := m2 (fi (f + 1)) q1 q2 (hf (f + 1) (by omega) hq)
        have := (h0 _ q1 q2 q3).2 q4
        have := (y4 q4).1
        have := hfe (f + 1) (by omega) hq
        omega
      · rw [if_neg hq, if_neg hq]
        exact ⟨rfl, hc⟩
    rw [hcl.1]
    have e1 := (v4 hb).1
    refine ⟨fun x y => ?_, fun x y => ?_⟩
    · have a1 := (u5 (sa b) z2.1).mpr (by omega)
      have a2 := (v5 _ hcl.2).mpr (by omega)
      have a3 := (v6 hb _ hcl.2).mp (w.1 a1 a2)
      omega
    · have a1 := (v5 (sa (op t)) z1.1).mpr (by omega)
      have a2 := (v6 hb _ hcl.2).mpr (by omega)
      have a3 := (v6 hb (sa (op t)) z1.1).mp (w.2 a1 a2)
      omega
end
section
theorem pw_cg {sa ea ln ml : Int → Int} {ev : Int} (h : pw_ sa ea ln ev) (hl : ∀ k : Int, 0 ≤ k → k < ev → ml k = ln k) : pw_ sa ea ml ev := by
  obtain ⟨a1, a2, a3, a4⟩ := h
  refine ⟨a1, fun j x y => ?_, fun j x y n => ?_, fun k x y => ?_⟩
  · rcases a2 j x y with t | ⟨t, t', t''⟩
    · exact Or.inl t
    · exact Or.inr ⟨t, t', by rw [hl _ t t']; exact t''⟩
  · rcases a2 j x y with s | ⟨s, s', s''⟩
    · exact absurd s n
    rcases a3 j x y n with t | ⟨t, t', t''⟩
    · exact Or.inl t
    · exact Or.inr ⟨t, t', by rw [hl _ (by omega) t']; exact t''⟩
  · rw [hl k x y]; exact a4 k x y
/-- class and reference between two calls, n calls behind them -/
def cp_ (ky wt sa ea sm ln fi fk fo op : Int → Int) (ni ns ev cu wa fr oo : Int) (mt ml mf mx mi : Int → Int) (K n : Int) : Prop :=
  ix_ ky wt sa ea sm ln fi fk fo op ni ns ev cu wa fr oo K ∧ mt_ mt sa ∧ (∀ k : Int, 0 ≤ k → k < ev → ml k = ln k) ∧
  (∀ f : Int, 0 ≤ f → f < fr → mf f = fi f ∧ ((fk f = 2 ∧ mx f = 1) ∨ (fk f ≠ 2 ∧ mx f = 0))) ∧
  (∀ t : Int, 0 ≤ t → t < oo → 0 ≤ mi t ∧ mi t < fr ∧ fo (mi t) ≤ t ∧ (mi t + 1 < fr → t < fo (mi t + 1))) ∧
  (∀ j : Int, 0 ≤ j → j < 600 → wt j ≤ 1000000000) ∧ (ev ≤ n ∧ oo ≤ n ∧ ni ≤ n)
theorem mt_sg {mt sa : Int → Int} (h : mt_ mt sa) : sg_ mt 600 = sg_ (c1_ sa) 600 := sg_congr 600 (fun j x y => by
  unfold c1_
  rcases h j x y with t | t
  · rw [if_neg t.2]; exact t.1
  · rw [if_pos t.2]; exact t.1)
theorem cp_free {ky wt sa ea sm ln fi fk fo op : Int → Int} {ni ns ev cu wa fr oo : Int} {mt ml mf mx mi : Int → Int} {K n : Int} (h : cp_ ky wt sa ea sm ln fi fk fo op ni ns ev cu wa fr oo mt ml mf mx mi K n) (hn : n < 600) : ∃ j : Int, 0 ≤ j ∧ j < 600 ∧ sa j = -1 := by
  apply Classical.byContradiction
  intro hq
  obtain ⟨⟨hw, hnv, ⟨c1, c2, c3⟩, hr⟩, hmt, hml, hfm, hmi, hwt, hev, hoo, hni⟩ := h
  have e : sg_ (c1_ sa) 600 = 600 := by
    have := sg_all (g := c1_ sa) 600 (fun j x y => by
      unfold c1_
      rw [if_neg (fun z => hq ⟨j, x, by omega, z⟩)])
    exact this
  omega
theorem cp_im {ky wt sa ea sm ln fi fk fo op : Int → Int} {ni ns ev cu wa fr oo : Int} {mt ml mf mx mi : Int → Int} {K n : Int} (h : cp_ ky wt sa ea sm ln fi fk fo op ni ns ev cu wa fr oo mt ml mf mx mi K n) (hn : n < 600) : im_ sa ea mt ky wt sm ml mf mx op mi ni K ev cu fr oo := by
  have hfr := cp_free h hn
  obtain ⟨hI, hmt, hml, hfm, hmi, hwt, hev, hoo, hni⟩ := h
  obtain ⟨hw, ⟨n1, n2, n3, n4, n5, n6, n7⟩, ⟨c1, c2, c3⟩, ⟨hf1, hf2, hi0, hk0, ho0⟩, hkd, hfo, hfmo, ⟨hc0, hc3, hev2, ho1, ho2⟩, hsm, hky, hwt2, ⟨hK0, hwa⟩, hse⟩ := hI
  have hs0 := sg_nn (g := cw_ sa wt) 600 (fun j x y => by
    unfold cw_
    by_cases hq : sa j = -1
    · rw [if_pos hq]; omega
    · rw [if_neg hq]; exact hwt2 j x y)
  refine ⟨pw_cg hw hml, hmt, by rw [mt_sg hmt]; exact c1, by omega, hfr, ⟨hf1, hf2, by rw [(hfm 0 (by omega) (by omega)).1]; exact hi0⟩, fun f f0 f1 => ?_, fun f f0 f1 => ?_, ⟨hc0, hc3, hev2, ho1, ho2⟩, fun t t0 t1 => ?_, hsm, hky, fun j x y => ⟨hwt2 j x y, hwt j x y⟩, ⟨hK0, by omega⟩, fun h1 => ?_⟩
  · rw [(hfm f (by omega) f1).1]; exact n2 f f0 f1
  · have := (hfm f f0 f1).2
    omega
  · have a := n5 t t0 t1
    have b := hmi t t0 t1
    exact ⟨a.1, a.2.1, b.1, by omega⟩
  · rw [(hfm (fr - 1) (by omega) (by omega)).1]; exact n4 h1
/-- the last frame has an open interval: as the class says it, and as the reference does -/
theorem cp_open {ky wt sa ea sm ln fi fk fo op : Int → Int} {ni ns ev cu wa fr oo : Int} {mt ml mf mx mi : Int → Int} {K n : Int} (h : cp_ ky wt sa ea sm ln fi fk fo op ni ns ev cu wa fr oo mt ml mf mx mi K n) : fo (fr - 1) < oo ↔ (0 < oo ∧ mi (oo - 1) = fr - 1) := by
  obtain ⟨hI, hmt, hml, hfm, hmi, hwt, hev, hoo, hni⟩ := h
  obtain ⟨hw, hnv, hct, ⟨hf1, hf2, hi0, hk0, ho0⟩, hkd, hfo, hfmo, ⟨hc0, hc3, hev2, ho1, ho2⟩, hr⟩ := hI
  have a0 := hfo (fr - 1) (by omega) (by omega)
  have mono : ∀ (d : Nat) (f : Int), 0 ≤ f → f + d = fr - 1 → fo f ≤ fo (fr - 1) := by
    intro d
    induction d with
    | zero => intro f f0 f1; rw [show f = fr - 1 by omega]; omega
    | succ d ih =>
      intro f f0 f1
      have b1 := hfmo f f0 (by omega)
      have b2 := ih (f + 1) (by omega) (by omega)
      omega
  constructor
  · intro h1
    obtain ⟨b1, b2, b3, b4⟩ := hmi (oo - 1) (by omega) (by omega)
    refine ⟨by omega, ?_⟩
    apply Classical.byContradiction
    intro hq
    have b5 := b4 (by omega)
    have b6 := mono (fr - 1 - (mi (oo - 1) + 1)).toNat (mi (oo - 1) + 1) (by omega) (by omega)
    omega
  · intro ⟨h1, h2⟩
    have b := hmi (oo - 1) (by omega) (by omega)
    rw [h2] at b
    omega
theorem cp_lm {fi ea mf : Int → Int} {ev fr : Int} (h : mf (fr - 1) = fi (fr - 1)) : lm_ mf ea ev fr = lm_ fi ea ev fr := by
  unfold lm_
  rw [h]
/-- the line behind an insertion -/
theorem pu_mv {sa ea ln sa1 ea1 ln1 : Int → Int} {ev cu : Int} (h : pw_ sa ea ln ev) (hp : pu_ sa ea ln ev cu sa1 ea1 ln1) (c0 : 0 ≤ cu) :
    (∀ j : Int, 0 ≤ j → j < 600 → (sa1 j = -1 ↔ sa j = -1)) ∧ mv2_ sa ea cu (fun p => if p < cu then p else p + 1) sa1 ea1 (cu + 1) := by
  obtain ⟨a1, a2, a3, a4⟩ := h
  obtain ⟨b1, b2, b3, b4⟩ := hp
  have s1 : ∀ j : Int, 0 ≤ j → j < 600 → (sa1 j = -1 ↔ sa j = -1) := fun j x y => by
    have t := b3 j x y
    have w := a2 j x y
    by_cases hq : cu ≤ sa j
    · have := t.1 hq; omega
    · have := t.2 (by omega); omega
  refine ⟨s1, ⟨?_, fun j x y n => ?_⟩⟩
  · show cu + 1 = if cu < cu then cu else cu + 1
    rw [if_neg (by omega)]
  · have n0 : sa j ≠ -1 := fun z => n ((s1 j x y).mpr z)
    have t := b3 j x y
    have u := b4 j x y
    have w := a2 j x y
    have w3 := a3 j x y n0
    have rr : ∀ p q : Int, (p < q ↔ (if p < cu then p else p + 1) < (if q < cu then q else q + 1)) := fun p q => by
      by_cases h1 : p < cu
      · by_cases h2 : q < cu
        · rw [if_pos h1, if_pos h2]
        · rw [if_pos h1, if_neg h2]; omega
      · by_cases h2 : q < cu
        · rw [if_neg h1, if_pos h2]; omega
        · rw [if_neg h1, if_neg h2]; omega
    refine ⟨n0, ?_, fun e => ?_, fun e => ⟨?_, ?_⟩, fun q _ => rr _ _, fun e q _ => rr _ _⟩
    · show sa1 j = if sa j < cu then sa j else sa j + 1
      by_cases hq : sa j < cu
      · rw [if_pos hq]; exact t.2 hq
      · rw [if_neg hq]; exact t.1 (by omega)
    · rw [u.2 (Or.inr (by omega))]; exact e
    · show ea1 j = if ea j < cu then ea j else ea j + 1
      by_cases hq : ea j < cu
      · rw [if_pos hq]; exact u.2 (Or.inr hq)
      · rw [if_neg hq]; exact u.1 n0 (by omega)
    · by_cases hq : ea j < cu
      · rw [u.2 (Or.inr hq)]; exact e
      · rw [u.1 n0 (by omega)]; omega
/-- each interval's start and end in the line with the gap at cu -/
theorem pu_at {sa ea ln sa1 ea1 ln1 : Int → Int} {ev cu : Int} (h : pw_ sa ea ln ev) (hp : pu_ sa ea ln ev cu sa1 ea1 ln1) (c0 : 0 ≤ cu) (c1 : cu ≤ ev) {j : Int} (x : 0 ≤ j) (y : j < 600) (n : sa1 j ≠ -1) :
    sa1 j ≠ cu ∧ ea1 j ≠ cu ∧ 0 ≤ sa1 j ∧ sa1 j ≤ ev ∧ ln1 (sa1 j) = 2 * j ∧ (ea1 j = -1 ∨ (sa1 j < ea1 j ∧ ea1 j ≤ ev ∧ ln1 (ea1 j) = 2 * j + 1)) := by
  have s1 := (pu_mv h hp c0).1 j x y
  obtain ⟨a1, a2, a3, a4⟩ := h
  obtain ⟨b1, b2, b3, b4⟩ := hp
  have n0 : sa j ≠ -1 := fun z => n (s1.mpr z)
  have t := b3 j x y
  have u := b4 j x y
  have lnat : ∀ p : Int, 0 ≤ p → p < ev → (p < cu → ln1 p = ln p) ∧ (cu ≤ p → ln1 (p + 1) = ln p) := fun p p0 p1 => ⟨fun q => b2 p q, fun q => by rw [b1 (p + 1) (by omega) (by omega), show p + 1 - 1 = p by omega]⟩
  rcases a2 j x y with w | ⟨w0, w1, w2⟩
  · exact absurd w n0
  have l1 := lnat (sa j) w0 w1
  have e1 : sa1 j ≠ cu ∧ 0 ≤ sa1 j ∧ sa1 j ≤ ev ∧ ln1 (sa1 j) = 2 * j ∧ (sa1 j = sa j ∨ sa1 j = sa j + 1) := by
    by_cases hq : cu ≤ sa j
    · have e := t.1 hq
      rw [e]; exact ⟨by omega, by omega, by omega, by rw [l1.2 hq]; exact w2, Or.inr rfl⟩
    · have e := t.2 (by omega)
      rw [e]; exact ⟨by omega, by omega, by omega, by rw [l1.1 (by omega)]; exact w2, Or.inl rfl⟩
  rcases a3 j x y n0 with v | ⟨v0, v1, v2⟩
  · have e := u.2 (Or.inr (by omega))
    exact ⟨e1.1, by rw [e]; omega, e1.2.1, e1.2.2.1, e1.2.2.2.1, Or.inl (by rw [e]; exact v)⟩
  · have l2 := lnat (ea j) (by omega) v1
    by_cases hq : cu ≤ ea j
    · have e := u.1 n0 hq
      refine ⟨e1.1, by omega, e1.2.1, e1.2.2.1, e1.2.2.2.1, Or.inr ⟨by omega, by omega, ?_⟩⟩
      rw [e, l2.2 hq]; exact v2
    · have e := u.2 (Or.inr (by omega))
      have e3 := t.2 (by omega)
      refine ⟨e1.1, by omega, e1.2.1, e1.2.2.1, e1.2.2.2.1, Or.inr ⟨by omega, by omega, ?_⟩⟩
      rw [e, l2.1 (by omega)]; exact v2
/-- each place of that line but the gap -/
theorem pu_ln {sa ea ln sa1 ea1 ln1 : Int → Int} {ev cu : Int} (h : pw_ sa ea ln ev) (hp : pu_ sa ea ln ev cu sa1 ea1 ln1) (c0 : 0 ≤ cu) (c1 : cu ≤ ev) {k : Int} (x : 0 ≤ k) (y : k ≤ ev) (n : k ≠ cu) :
    0 ≤ ln1 k ∧ ln1 k < 1200 ∧ (ln1 k % 2 = 0 → sa1 (ln1 k / 2) = k) ∧ (ln1 k % 2 = 1 → sa1 (ln1 k / 2) ≠ -1 ∧ ea1 (ln1 k / 2) = k) := by
  have s1 := (pu_mv h hp c0).1
  obtain ⟨a1, a2, a3, a4⟩ := h
  obtain ⟨b1, b2, b3, b4⟩ := hp
  by_cases hq : k < cu
  · have e := b2 k hq
    obtain ⟨d1, d2, d3, d4⟩ := a4 k x (by omega)
    have t := b3 (ln k / 2) (by omega) (by omega)
    have u := b4 (ln k / 2) (by omega) (by omega)
    have s2 := s1 (ln k / 2) (by omega) (by omega)
    rw [e]
    refine ⟨d1, d2, fun he => ?_, fun he => ⟨fun z => (d4 he).1 (s2.mp z), ?_⟩⟩
    · have := d3 he
      rw [t.2 (by omega)]; exact this
    · have := (d4 he).2
      rw [u.2 (Or.inr (by omega))]; exact this
  · have e := b1 k (by omega) y
    obtain ⟨d1, d2, d3, d4⟩ := a4 (k - 1) (by omega) (by omega)
    have t := b3 (ln (k - 1) / 2) (by omega) (by omega)
    have u := b4 (ln (k - 1) / 2) (by omega) (by omega)
    have s2 := s1 (ln (k - 1) / 2) (by omega) (by omega)
    rw [e]
    refine ⟨d1, d2, fun he => ?_, fun he => ⟨fun z => (d4 he).1 (s2.mp z), ?_⟩⟩
    · have := d3 he
      have := t.1 (by omega)
      omega
    · have g := d4 he
      have := u.1 g.1 (by omega)
      omega
theorem pu_even_pw {sa ea ln sa1 ea1 ln1 : Int → Int} {ev cu i : Int} (h : pw_ sa ea ln ev) (hp : pu_ sa ea ln ev cu sa1 ea1 ln1) (c0 : 0 ≤ cu) (c1 : cu ≤ ev) (hev : ev < 1200) (i0 : 0 ≤ i) (i1 : i < 600) (hi : sa i = -1) (he : ea1 i = -1) : pw_ (up_ sa1 i cu) ea1 (up_ ln1 cu (2 * i)) (ev + 1) := by
  have s1 := (pu_mv h hp c0).1
  have e0 := h.1
  refine ⟨by omega, fun j x y => ?_, fun j x y n => ?_, fun k x y => ?_⟩
  · by_cases hj : j = i
    · rw [hj, up_s, up_s]; exact Or.inr ⟨c0, by omega, rfl⟩
    · rw [up_n hj]
      by_cases hq : sa1 j = -1
      · exact Or.inl hq
      · obtain ⟨p1, p2, p3, p4, p5, p6⟩ := pu_at h hp c0 c1 x y hq
        exact Or.inr ⟨p3, by omega, by rw [up_n p1]; exact p5⟩
  · by_cases hj : j = i
    · rw [hj]; exact Or.inl he
    · rw [up_n hj] at n ⊢
      obtain ⟨p1, p2, p3, p4, p5, p6⟩ := pu_at h hp c0 c1 x y n
      rcases p6 with p6 | ⟨q1, q2, q3⟩
      · exact Or.inl p6
      · exact Or.inr ⟨q1, by omega, by rw [up_n p2]; exact q3⟩
  · by_cases hk : k = cu
    · rw [hk, up_s]
      refine ⟨by omega, by omega, fun _ => ?_, fun q => by omega⟩
      rw [show 2 * i / 2 = i by omega, up_s]
    · rw [up_n hk]
      obtain ⟨d1, d2, d3, d4⟩ := pu_ln h hp c0 c1 x (by omega) hk
      have ne : ln1 k / 2 ≠ i := fun q => by
        by_cases he2 : ln1 k % 2 = 0
        · have z := d3 he2
          rw [q] at z
          have := (s1 i i0 i1).mpr hi
          omega
        · have z := (d4 (by omega)).1
          rw [q] at z
          exact z ((s1 i i0 i1).mpr hi)
      exact ⟨d1, d2, fun q => by rw [up_n ne]; exact d3 q, fun q => by rw [up_n ne]; exact d4 q⟩
theorem pu_odd_pw {sa ea ln sa1 ea1 ln1 : Int → Int} {ev cu i : Int} (h : pw_ sa ea ln ev) (hp : pu_ sa ea ln ev cu sa1 ea1 ln1) (c0 : 0 ≤ cu) (c1 : cu ≤ ev) (hev : ev < 1200) (i0 : 0 ≤ i) (i1 : i < 600) (hi : sa i ≠ -1) (he : ea i = -1) (hc : sa i < cu) : pw_ sa1 (up_ ea1 i cu) (up_ ln1 cu (2 * i + 1)) (ev + 1) := by
  have s1 := (pu_mv h hp c0).1
  have e0 := h.1
  have si : sa1 i = sa i := (hp.2.2.1 i i0 i1).2 hc
  have ei : ea1 i = -1 := by rw [(hp.2.2.2 i i0 i1).2 (Or.inr (by omega))]; exact he
  refine ⟨by omega, fun j x y => ?_, fun j x y n => ?_, fun k x y => ?_⟩
  · by_cases hq : sa1 j = -1
    · exact Or.inl hq
    · obtain ⟨p1, p2, p3, p4, p5, p6⟩ := pu_at h hp c0 c1 x y hq
      exact Or.inr ⟨p3, by omega, by rw [up_n p1]; exact p5⟩
  · by_cases hj : j = i
    · rw [hj, up_s, up_s, si]; exact Or.inr ⟨hc, by omega, rfl⟩
    · rw [up_n hj]
      obtain ⟨p1, p2, p3, p4, p5, p6⟩ := pu_at h hp c0 c1 x y n
      rcases p6 with p6 | ⟨q1, q2, q3⟩
      · exact Or.inl p6
      · exact Or.inr ⟨q1, by omega, by rw [up_n p2]; exact q3⟩
  · by_cases hk : k = cu
    · rw [hk, up_s]
      refine ⟨by omega, by omega, fun q => by omega, fun _ => ?_⟩
      rw [show (2 * i + 1) / 2 = i by omega, up_s]
      exact ⟨by omega, rfl⟩
    · rw [up_n hk]
      obtain ⟨d1, d2, d3, d4⟩ := pu_ln h hp c0 c1 x (by omega) hk
      refine ⟨d1, d2, d3, fun q => ⟨(d4 q).1, ?_⟩⟩
      have z := (d4 q).2
      by_cases hq : ln1 k / 2 = i
      · rw [hq] at z; omega
      · rw [up_n hq]; exact z
end
section
/-- the states behind a call, n calls made -/
def cc_ (n : Int) (u : SX_) (v : SM_) : Prop := ∃ (ky wt sa ea sm ln fi fk fo op : Int → Int) (ni ns ev cu wa fr oo : Int) (mt ml mf mx mi mg : Int → Int) (th K : Int), u = (ky, wt, sa, ea, sm, ln, fi, fk, fo, op, ni, ns, ev, cu, wa, fr, oo) ∧ v = (mt, ky, wt, sm, ml, mf, mx, op, mi, mg, th, ni, K, ev, cu, fr, oo) ∧ cp_ ky wt sa ea sm ln fi fk fo op ni ns ev cu wa fr oo mt ml mf mx mi K n
theorem cp_up {ky wt sa ea sm ln fi fk fo op : Int → Int} {ni ns ev cu wa fr oo : Int} {mt ml mf mx mi : Int → Int} {K n : Int} (h : cp_ ky wt sa ea sm ln fi fk fo op ni ns ev cu wa fr oo mt ml mf mx mi K n) : cp_ ky wt sa ea sm ln fi fk fo op ni ns ev cu wa fr oo mt ml mf mx mi K (n + 1) := by
  obtain ⟨a1, a2, a3, a4, a5, a6, a7, a8, a9⟩ := h
  exact ⟨a1, a2, a3, a4, a5, a6, by omega, by omega, by omega⟩
theorem nv_ea {sa ea fi fo op : Int → Int} {cu fr oo i v : Int} (h : nv_ sa ea cu fi fo fr op oo) (hi : sa i = -1) : nv_ sa (up_ ea i v) cu fi fo fr op oo := by
  obtain ⟨n1, n2, n3, n4, n5, n6, n7⟩ := h
  have e : ∀ j : Int, sa j ≠ -1 → up_ ea i v j = ea j := fun j hj => up_n (fun q => hj (by rw [q]; exact hi))
  have ef : ∀ f : Int, 1 ≤ f → f < fr → up_ ea i v (fi f) = ea (fi f) := fun f f0 f1 => e _ (n2 f f0 f1).2.2.1
  have hcl : ∀ f : Int, 0 ≤ f → f < fr → cl_ (up_ ea i v) cu fi fr f = cl_ ea cu fi fr f := fun f f0 f1 => by
    unfold cl_
    by_cases hq : f + 1 < fr
    · rw [if_pos hq, if_pos hq, ef (f + 1) (by omega) hq]
    · rw [if_neg hq, if_neg hq]
  refine ⟨fun a b a0 a1 b0 b1 s1 s2 => ?_, fun f f0 f1 => ?_, fun f f0 f1 => ?_, fun f1 => ?_, fun t t0 t1 => ?_, n6, fun f t f0 f1 t0 t1 t2 t3 b b0 b1 sb => ?_⟩
  · rw [e a s1, e b s2]; exact n1 a b a0 a1 b0 b1 s1 s2
  · rw [ef f f0 f1]; exact n2 f f0 f1
  · rw [ef f f0 (by omega), ef (f + 1) (by omega) f1]; exact n3 f f0 f1
  · rw [ef (fr - 1) (by omega) (by omega)]; exact n4 f1
  · rw [e _ (n5 t t0 t1).2.2.1]; exact n5 t t0 t1
  · rw [hcl f f0 f1, e b sb]; exact n7 f t f0 f1 t0 t1 t2 t3 b b0 b1 sb
theorem nv_fe {sa ea fi fo op : Int → Int} {cu fr oo : Int} (h : nv_ sa ea cu fi fo fr op oo) : ∀ f : Int, 1 ≤ f → f < fr → cu ≤ ea (fi f) ∧ sa (fi f) < cu := by
  obtain ⟨n1, n2, n3, n4, n5, n6, n7⟩ := h
  have key : ∀ (k : Nat) (g : Int), 1 ≤ g → g < fr → g = fr - 1 - k → cu ≤ ea (fi g) ∧ sa (fi g) < cu := by
    intro k
    induction k with
    | zero => intro g g0 g1 g2; rw [show g = fr - 1 by omega]; have := n4 (by omega); omega
    | succ k ih =>
      intro g g0 g1 g2
      have b1 := ih (g + 1) (by omega) (by omega) (by omega)
      have b2 := n3 g g0 (by omega)
      omega
  intro f f0 f1
  exact key (fr - 1 - f).toNat f f0 f1 (by omega)
/-- nesting in the line with a gap at the cursor -/
theorem nv_gap {sa ea ln sa1 ea1 ln1 fi fo op : Int → Int} {ev cu fr oo : Int} (hw : pw_ sa ea ln ev) (h : nv_ sa ea cu fi fo fr op oo) (hp : pu_ sa ea ln ev cu sa1 ea1 ln1) (c0 : 0 ≤ cu) : nv_ sa1 ea1 (cu + 1) fi fo fr op oo := by
  obtain ⟨s1, hm⟩ := pu_mv hw hp c0
  have hfe := nv_fe h
  refine nv_move2 h hm (fun j x y n => ?_) c0 (fun f f0 f1 => ?_) (fun f f0 f1 => ?_) (fun t t0 t1 => ?_)
  · have a := hw.2.1 j x y
    have b := hw.2.2.1 j x y n
    exact ⟨by omega, fun _ => by omega⟩
  · have := hfe f f0 f1
    show (if ea (fi f) + 1 < cu then ea (fi f) + 1 else ea (fi f) + 1 + 1) = (if ea (fi f) < cu then ea (fi f) else ea (fi f) + 1) + 1
    rw [if_neg (by omega), if_neg (by omega)]
  · have p := h.2.1 f f0 f1
    exact fun z => p.2.2.1 ((s1 _ p.1 p.2.1).mp z)
  · have p := h.2.2.2.2.1 t t0 t1
    exact fun z => p.2.2.1 ((s1 _ p.1 p.2.1).mp z)
theorem ct_begin {sa sa1 sm wt : Int → Int} {ni ns wa K z c : Int} (h : ct_ sa sm wt ni ns wa K) (hs : ∀ j : Int, 0 ≤ j → j < 600 → (sa1 j = -1 ↔ sa j = -1)) (z0 : 0 ≤ z) (z1 : z < 600) (hz : sa z = -1) (hc : 0 ≤ c) : ct_ (up_ sa1 z c) (up_ sm z 0) (up_ wt z 0) (ni + 1) ns wa K := by
  obtain ⟨a1, a2, a3⟩ := h
  have f1 := sg_up (g := c1_ (up_ sa1 z c)) (h := c1_ sa) (i := z) 600 z0 z1 (fun j x y hj => by
    unfold c1_
    rw [up_n hj]
    by_cases hq : sa j = -1
    · rw [if_pos hq, if_pos ((hs j x y).mpr hq)]
    · rw [if_neg hq, if_neg (fun t => hq ((hs j x y).mp t))])
  have f2 : ∀ g : Int → Int, sg_ (cw_ (up_ sa1 z c) (up_ g z 0)) 600 = sg_ (cw_ sa g) 600 - cw_ sa g z + cw_ (up_ sa1 z c) (up_ g z 0) z := fun g => sg_up 600 z0 z1 (fun j x y hj => by
    unfold cw_
    rw [up_n hj, up_n hj]
    by_cases hq : sa j = -1
    · rw [if_pos hq, if_pos ((hs j x y).mpr hq)]
    · rw [if_neg hq, if_neg (fun t => hq ((hs j x y).mp t))])
  have e1 : c1_ (up_ sa1 z c) z = 1 := by unfold c1_; rw [up_s, if_neg (by omega)]
  have e2 : c1_ sa z = 0 := by unfold c1_; rw [if_pos hz]
  have e3 : ∀ g : Int → Int, cw_ sa g z = 0 := fun g => by unfold cw_; rw [if_pos hz]
  have e4 : ∀ g : Int → Int, cw_ (up_ sa1 z c) (up_ g z 0) z = 0 := fun g => by unfold cw_; rw [up_s, up_s, if_neg (by omega)]
  have g2 := f2 sm
  have g3 := f2 wt
  rw [e3, e4] at g2 g3
  rw [e1, e2] at f1
  exact ⟨by omega, by omega, by omega⟩
theorem op_begin {ky wt sa ea sm ln fi fk fo op : Int → Int} {ni ns ev cu wa fr oo : Int} {mt ml mf mx mi mg : Int → Int} {K th n : Int} {key z w : Int} {u : SX_} {v : SM_} (h : cp_ ky wt sa ea sm ln fi fk fo op ni ns ev cu wa fr oo mt ml mf mx mi K n) (hn : n < 512) (hk : zr_ key) (hx : (z = -1 ∧ u = (ky, wt, sa, ea, sm, ln, fi, fk, fo, op, ni, ns, ev, cu, wa, fr, oo) ∧ (fk (fr - 1) = 2 ∨ ∀ j : Int, 0 ≤ j → j < 600 → sa j ≠ -1)) ∨ (0 ≤ z ∧ z < 600 ∧ sa z = -1 ∧ (∀ j : Int, 0 ≤ j → j < z → sa j ≠ -1) ∧ fk (fr - 1) ≠ 2 ∧ ∃ sa1 ea1 ln1 : Int → Int, pu_ sa (up_ ea z (-1)) ln ev cu sa1 ea1 ln1 ∧ u = (up_ ky z key, up_ wt z 0, up_ sa1 (2 * z / 2) cu, ea1, up_ sm z 0, up_ ln1 cu (2 * z), fi, fk, fo, up_ op oo z, ni + 1, ns, ev + 1, cu + 1, wa, fr, oo + 1))) (hm : (w = -1 ∧ v = (mt, ky, wt, sm, ml, mf, mx, op, mi, mg, 0, ni, K, ev, cu, fr, oo) ∧ mx (fr - 1) = 1) ∨ (0 ≤ w ∧ w < 600 ∧ sa w = -1 ∧ (∀ j : Int, 0 ≤ j → j < w → sa j ≠ -1) ∧ mx (fr - 1) = 0 ∧ ∃ ml1 : Int → Int, mp_ ml ev cu ml1 ∧ v = (up_ mt w 1, up_ ky w key, up_ wt w 0, up_ sm w 0, up_ ml1 cu (2 * w), mf, mx, up_ op oo w, up_ mi oo (fr - 1), mg, 0, ni + 1, K, ev + 1, cu + 1, fr, oo + 1))) : z = w ∧ cc_ (n + 1) u v := by
  have hfree := cp_free h (by omega)
  have hu := cp_up h
  obtain ⟨hI, hmt, hml, hfm, hmi, hwt, hev, hoo, hni⟩ := id h
  obtain ⟨hw, hnv, hct, ⟨hf1, hf2, hi0, hk0, ho0⟩, hkd, hfo, hfmo, ⟨hc0, hc3, hev2, ho1, ho2⟩, hsm, hky, hwt2, ⟨hK0, hwa⟩, hse⟩ := id hI
  have hlast := (hfm (fr - 1) (by omega) (by omega)).2
  rcases hx with ⟨e, rfl, hx⟩ | ⟨z0, z1, z2, z3, z4, sa1, ea1, ln1, hpu, rfl⟩
  · rcases hm with ⟨e', rfl, hm⟩ | ⟨y0, y1, y2, y3, y4, ml1, hmp, rfl⟩
    · exact ⟨by omega, _, _, _, _, _, _, _, _, _, _, _, _, _, _, _, _, _, _, _, _, _, _, _, _, _, rfl, rfl, hu⟩
    · exfalso
      rcases hx with hx | hx
      · omega
      · obtain ⟨j, j0, j1, j2⟩ := hfree
        exact hx j j0 j1 j2
  · rcases hm with ⟨e', rfl, hm⟩ | ⟨y0, y1, y2, y3, y4, ml1, hmp, rfl⟩
    · exfalso; omega
    · have hzw : z = w := by
        rcases Int.lt_trichotomy z w with q | q | q
        · exact absurd z2 (y3 z z0 q)
        · exact q
        · exact absurd y2 (z3 w y0 q)
      subst hzw
      refine ⟨rfl, _, _, _, _, _, _, _, _, _, _, _, _, _, _, _, _, _, _, _, _, _, _, _, _, _, rfl, rfl, ?_⟩
      rw [show 2 * z / 2 = z by omega]
      have hw2 := pw_ea (v := -1) hw z2
      have s1 := (pu_mv hw2 hpu hc0).1
      have ez : ea1 z = -1 := by rw [(hpu.2.2.2 z z0 z1).2 (Or.inl z2)]; exact up_s _ _ _
      have sz : sa1 z = -1 := (s1 z z0 z1).mpr z2
      have hgap := nv_gap hw2 (nv_ea (v := -1) hnv z2) hpu hc0
      have hfl : ∀ f : Int, 0 ≤ f → f < fr → 0 ≤ fo f ∧ fo f ≤ oo := hfo
      refine ⟨⟨pu_even_pw hw2 hpu hc0 hc3 hev2 z0 z1 z2 ez, ?_, ct_begin hct s1 z0 z1 z2 hc0, ⟨hf1, hf2, hi0, hk0, ho0⟩, hkd, fun f f0 f1 => ?_, hfmo, ⟨by omega, by omega, by omega, by omega, by omega⟩, fun j x y => ?_, fun j x y => ?_, fun j x y => ?_, ⟨hK0, hwa⟩, fun j x y n1 n2 => ?_⟩, fun j x y => ?_, fun k x y => ?_, hfm, fun t t0 t1 => ?_, fun j x y => ?_, by omega, by omega, by omega⟩
      · refine nv_begin hgap (fun j x y q => ?_) z0 z1 sz hf1 hc0 ho1 (fun f f0 f1 => (hfl (f + 1) (by omega) f1).2) (fun j x y q => ⟨up_n q, rfl⟩) (up_s _ _ _) ez (fun t q => up_n (by omega)) (up_s _ _ _)
        have p := pu_at hw2 hpu hc0 hc3 x y q
        exact ⟨p.1, p.2.1⟩
      · have := hfo f f0 f1
        omega
      · by_cases hj : j = z
        · rw [hj, up_s]; exact Or.inl rfl
        · rw [up_n hj]; exact hsm j x y
      · by_cases hj : j = z
        · rw [hj, up_s]; exact hk
        · rw [up_n hj]; exact hky j x y
      · by_cases hj : j = z
        · rw [hj, up_s]; omega
        · rw [up_n hj]; exact hwt2 j x y
      · by_cases hj : j = z
        · rw [hj, up_s] at n2; omega
        · rw [up_n hj] at n1 n2
          have q0 : sa j ≠ -1 := fun t => n1 ((s1 j x y).mpr t)
          have q1 := hse j x y q0 n2
          have q2 := hpu.2.2.2 j x y
          rw [up_n hj] at q2
          by_cases q3 : cu ≤ ea j
          · rw [q2.1 q0 q3]; omega
          · rw [q2.2 (Or.inr (by omega))]; exact q1
      · by_cases hj : j = z
        · rw [hj, up_s, up_s]; exact Or.inl ⟨rfl, by omega⟩
        · rw [up_n hj, up_n hj]
          rcases hmt j x y with t | t
          · exact Or.inl ⟨t.1, fun q => t.2 ((s1 j x y).mp q)⟩
          · exact Or.inr ⟨t.1, (s1 j x y).mpr t.2⟩
      · by_cases hkc : k = cu
        · rw [hkc, up_s, up_s]
        · rw [up_n hkc, up_n hkc]
          by_cases hq : k < cu
          · rw [hmp.2 k hq, hpu.2.1 k hq]; exact hml k x (by omega)
          · rw [hmp.1 k (by omega) (by omega), hpu.1 k (by omega) (by omega)]; exact hml (k - 1) (by omega) (by omega)
      · by_cases ht : t = oo
        · rw [ht, up_s]
          have := hfo (fr - 1) (by omega) (by omega)
          exact ⟨by omega, by omega, by omega, fun q => by omega⟩
        · rw [up_n ht]; exact hmi t t0 (by omega)
      · by_cases hj : j = z
        · rw [hj, up_s]; omega
        · rw [up_n hj]; exact hwt j x y
end
section
theorem fo_mono {fo : Int → Int} {fr : Int} (h : ∀ f : Int, 0 ≤ f → f + 1 < fr → fo f ≤ fo (f + 1)) : ∀ f : Int, 0 ≤ f → f < fr → fo f ≤ fo (fr - 1) := by
  have key : ∀ (d : Nat) (f : Int), 0 ≤ f → f + d = fr - 1 → fo f ≤ fo (fr - 1) := by
    intro d
    induction d with
    | zero => intro f f0 f1; rw [show f = fr - 1 by omega]; omega
    | succ d ih =>
      intro f f0 f1
      have b1 := h f f0 (by omega)
      have b2 := ih (f + 1) (by omega) (by omega)
      omega
  intro f f0 f1
  exact key (fr - 1 - f).toNat f f0 (by omega)
theorem op_end {ky wt sa ea sm ln fi fk fo op : Int → Int} {ni ns ev cu wa fr oo : Int} {mt ml mf mx mi mg : Int → Int} {K th n z w : Int} {u : SX_} {v : SM_} (h : cp_ ky wt sa ea sm ln fi fk fo op ni ns ev cu wa fr oo mt ml mf mx mi K n) (hn : n < 512) (hx : (z = -1 ∧ u = (ky, wt, sa, ea, sm, ln, fi, fk, fo, op, ni, ns, ev, cu, wa, fr, oo) ∧ oo ≤ fo (fr - 1)) ∨ (fo (fr - 1) < oo ∧ z = op (oo - 1) ∧ ∃ sa1 ea1 ln1 : Int → Int, pu_ sa ea ln ev cu sa1 ea1 ln1 ∧ u = (ky, wt, sa1, up_ ea1 ((2 * z + 1) / 2) cu, sm, up_ ln1 cu (2 * z + 1), fi, fk, fo, op, ni, ns, ev + 1, cu + 1, wa, fr, oo - 1))) (hm : (w = -1 ∧ v = (mt, ky, wt, sm, ml, mf, mx, op, mi, mg, 0, ni, K, ev, cu, fr, oo) ∧ (oo ≤ 0 ∨ mi (oo - 1) ≠ fr - 1)) ∨ (0 < oo ∧ mi (oo - 1) = fr - 1 ∧ w = op (oo - 1) ∧ ∃ ml1 : Int → Int, mp_ ml ev cu ml1 ∧ v = (mt, ky, wt, sm, up_ ml1 cu (2 * w + 1), mf, mx, op, mi, mg, 0, ni, K, ev + 1, cu + 1, fr, oo - 1))) : z = w ∧ cc_ (n + 1) u v := by
  have hu := cp_up h
  obtain ⟨hI, hmt, hml, hfm, hmi, hwt, hev, hoo, hni⟩ := id h
  obtain ⟨hw, hnv, hct, ⟨hf1, hf2, hi0, hk0, ho0⟩, hkd, hfo, hfmo, ⟨hc0, hc3, hev2, ho1, ho2⟩, hsm, hky, hwt2, ⟨hK0, hwa⟩, hse⟩ := id hI
  have hlast := (hfm (fr - 1) (by omega) (by omega)).2
  have hlf := (hfm (fr - 1) (by omega) (by omega)).1
  have hop := cp_open h
  have hlm : lm_ mf ea ev fr = lm_ fi ea ev fr := cp_lm hlf
  have hxf := ix_f hI
  have hmono := fo_mono hfmo
  rcases hx with ⟨e, rfl, hx⟩ | ⟨z0, z1, sa1, ea1, ln1, hpu, rfl⟩
  · rcases hm with ⟨e', rfl, hm⟩ | ⟨y0, y1, y2, ml1, hmp, rfl⟩
    · exact ⟨by omega, _, _, _, _, _, _, _, _, _, _, _, _, _, _, _, _, _, _, _, _, _, _, _, _, _, rfl, rfl, hu⟩
    · exfalso; omega
  · rcases hm with ⟨e', rfl, hm⟩ | ⟨y0, y1, y2, ml1, hmp, rfl⟩
    · exfalso; omega
    · have hzw : z = w := by omega
      subst hzw
      obtain ⟨p0, p1, p2, p3, p4⟩ := hnv.2.2.2.2.1 (oo - 1) (by omega) (by omega)
      rw [← z1] at p0 p1 p2 p3 p4
      refine ⟨rfl, _, _, _, _, _, _, _, _, _, _, _, _, _, _, _, _, _, _, _, _, _, _, _, _, _, rfl, rfl, ?_⟩
      rw [show (2 * z + 1) / 2 = z by omega]
      have s1 := (pu_mv hw hpu hc0).1
      have hgap := nv_gap hw hnv hpu hc0
      refine ⟨⟨pu_odd_pw hw hpu hc0 hc3 hev2 p0 p1 p2 p3 p4, ?_, ct_same hct (fun j x y => (s1 j x y).symm), ⟨hf1, hf2, hi0, hk0, ho0⟩, hkd, fun f f0 f1 => ?_, hfmo, ⟨by omega, by omega, by omega, by omega, by omega⟩, hsm, hky, hwt2, ⟨hK0, hwa⟩, fun j x y n1 n2 => ?_⟩, fun j x y => ?_, fun k x y => ?_, hfm, fun t t0 t1 => hmi t t0 (by omega), hwt, by omega, by omega, by omega⟩
      · refine nv_end hgap (fun j x y q => ?_) hf1 hc0 z0 (by omega) z1.symm (fun f f0 f1 => ⟨(hfo f f0 f1).1, hmono f f0 f1⟩) (fun j x y q => up_n q) (up_s _ _ _)
        have p := pu_at hw hpu hc0 hc3 x y q
        exact ⟨p.1, p.2.1⟩
      · have a := hfo f f0 f1
        have b := hmono f f0 f1
        omega
      · by_cases hj : j = z
        · rw [hj, up_s]; omega
        · rw [up_n hj]
          have q0 : sa j ≠ -1 := fun t => n1 ((s1 j x y).mpr t)
          have q1 := hse j x y q0 n2
          have q2 := hpu.2.2.2 j x y
          by_cases q3 : cu ≤ ea j
          · rw [q2.1 q0 q3]; omega
          · rw [q2.2 (Or.inr (by omega))]; exact q1
      · rcases hmt j x y with t | t
        · exact Or.inl ⟨t.1, fun q => t.2 ((s1 j x y).mp q)⟩
        · exact Or.inr ⟨t.1, (s1 j x y).mpr t.2⟩
      · by_cases hkc : k = cu
        · rw [hkc, up_s, up_s]
        · rw [up_n hkc, up_n hkc]
          by_cases hq : k < cu
          · rw [hmp.2 k hq, hpu.2.1 k hq]; exact hml k x (by omega)
          · rw [hmp.1 k (by omega) (by omega), hpu.1 k (by omega) (by omega)]; exact hml (k - 1) (by omega) (by omega)
theorem cw_up {sa f : Int → Int} {i v : Int} (h0 : 0 ≤ i) (h1 : i < 600) (hs : sa i ≠ -1) : sg_ (cw_ sa (up_ f i v)) 600 = sg_ (cw_ sa f) 600 - f i + v := by
  have a := sg_up (g := cw_ sa (up_ f i v)) (h := cw_ sa f) (i := i) 600 h0 h1 (fun j _ _ hj => by unfold cw_; rw [up_n hj])
  have b : cw_ sa (up_ f i v) i = v := by unfold cw_; rw [if_neg hs, up_s]
  have c : cw_ sa f i = f i := by unfold cw_; rw [if_neg hs]
  rw [b, c] at a
  exact a
theorem cw_one {sa f : Int → Int} {i : Int} (hf : ∀ j : Int, 0 ≤ j → j < 600 → 0 ≤ f j) (h0 : 0 ≤ i) (h1 : i < 600) (hs : sa i ≠ -1) : f i ≤ sg_ (cw_ sa f) 600 := by
  have a := sg_one (g := cw_ sa f) (i := i) 600 (fun j x y => by
    unfold cw_
    by_cases hq : sa j = -1
    · rw [if_pos hq]; omega
    · rw [if_neg hq]; exact hf j x y) h0 h1
  have c : cw_ sa f i = f i := by unfold cw_; rw [if_neg hs]
  rw [c] at a
  exact a
theorem op_weigh {n1 : Int} {ky wt sa ea sm ln fi fk fo op : Int → Int} {ni ns ev cu wa fr oo : Int} {mt ml mf mx mi mg : Int → Int} {K th n z w : Int} {u : SX_} {v : SM_} (h : cp_ ky wt sa ea sm ln fi fk fo op ni ns ev cu wa fr oo mt ml mf mx mi K n) (hn : n < 512) (hx : (z = 0 ∧ u = (ky, wt, sa, ea, sm, ln, fi, fk, fo, op, ni, ns, ev, cu, wa, fr, oo) ∧ (n1 < 0 ∨ fk (fr - 1) = 2 ∨ 1000000000 < wa + n1)) ∨ (z = 1 ∧ 0 ≤ n1 ∧ fk (fr - 1) ≠ 2 ∧ wa + n1 ≤ 1000000000 ∧ ∃ i : Int, ((fo (fr - 1) < oo ∧ i = op (oo - 1)) ∨ (oo ≤ fo (fr - 1) ∧ i = fi (fr - 1))) ∧ ((i = -1 ∧ u = (ky, wt, sa, ea, sm, ln, fi, fk, fo, op, ni, ns, ev, cu, wa + n1, fr, oo)) ∨ (0 ≤ i ∧ i < 600 ∧ u = (ky, up_ wt i (wt i + n1), sa, ea, sm, ln, fi, fk, fo, op, ni, ns, ev, cu, wa + n1, fr, oo))))) (hm : (w = 0 ∧ v = (mt, ky, wt, sm, ml, mf, mx, op, mi, mg, 0, ni, K, ev, cu, fr, oo) ∧ (n1 < 0 ∨ mx (fr - 1) = 1 ∨ 1000000000 < K + sg_ (cw_ sa wt) 600 + n1)) ∨ (w = 1 ∧ 0 ≤ n1 ∧ mx (fr - 1) = 0 ∧ K + sg_ (cw_ sa wt) 600 + n1 ≤ 1000000000 ∧ ∃ i : Int, ((0 < oo ∧ mi (oo - 1) = fr - 1 ∧ i = op (oo - 1)) ∨ ((oo ≤ 0 ∨ mi (oo - 1) ≠ fr - 1) ∧ i = mf (fr - 1))) ∧ ((i = -1 ∧ v = (mt, ky, wt, sm, ml, mf, mx, op, mi, mg, 0, ni, K + n1, ev, cu, fr, oo)) ∨ (0 ≤ i ∧ i < 600 ∧ v = (mt, ky, up_ wt i (wt i + n1), sm, ml, mf, mx, op, mi, mg, 0, ni, K, ev, cu, fr, oo))))) : z = w ∧ cc_ (n + 1) u v := by
  have hu := cp_up h
  obtain ⟨hI, hmt, hml, hfm, hmi, hwt, hev, hoo, hni⟩ := id h
  obtain ⟨hw, hnv, hct, ⟨hf1, hf2, hi0, hk0, ho0⟩, hkd, hfo, hfmo, ⟨hc0, hc3, hev2, ho1, ho2⟩, hsm, hky, hwt2, ⟨hK0, hwa⟩, hse⟩ := id hI
  have hlast := (hfm (fr - 1) (by omega) (by omega)).2
  have hlf := (hfm (fr - 1) (by omega) (by omega)).1
  have hop := cp_open h
  have hlm : lm_ mf ea ev fr = lm_ fi ea ev fr := cp_lm hlf
  have hxf := ix_f hI
  obtain ⟨c1, c2, c3⟩ := id hct
  rcases hx with ⟨e, rfl, hx⟩ | ⟨z0, z1, z2, z3, i, hi, hx⟩
  · rcases hm with ⟨e', rfl, hm⟩ | ⟨y0, y1, y2, y3, i', hi', hm⟩
    · exact ⟨by omega, _, _, _, _, _, _, _, _, _, _, _, _, _, _, _, _, _, _, _, _, _, _, _, _, _, rfl, rfl, hu⟩
    · exfalso; omega
  · rcases hm with ⟨e', rfl, hm⟩ | ⟨y0, y1, y2, y3, i', hi', hm⟩
    · exfalso; omega
    · have hii : i = i' := by omega
      subst hii
      refine ⟨by omega, ?_⟩
      rcases hx with ⟨x0, rfl⟩ | ⟨x0, x1, rfl⟩
      · rcases hm with ⟨m0, rfl⟩ | ⟨m0, m1, rfl⟩
        · refine ⟨_, _, _, _, _, _, _, _, _, _, _, _, _, _, _, _, _, _, _, _, _, _, _, _, _, rfl, rfl, ?_⟩
          exact ⟨⟨hw, hnv, ⟨c1, c2, by omega⟩, ⟨hf1, hf2, hi0, hk0, ho0⟩, hkd, hfo, hfmo, ⟨hc0, hc3, hev2, ho1, ho2⟩, hsm, hky, hwt2, ⟨by omega, by omega⟩, hse⟩, hmt, hml, hfm, hmi, hwt, by omega, by omega, by omega⟩
        · exfalso; omega
      · rcases hm with ⟨m0, rfl⟩ | ⟨m0, m1, rfl⟩
        · exfalso; omega
        · have hs : sa i ≠ -1 := by
            rcases hi with ⟨a, b⟩ | ⟨a, b⟩
            · have := hnv.2.2.2.2.1 (oo - 1) (by omega) (by omega)
              rw [b]; exact this.2.2.1
            · have hfr : 1 < fr := by omega
              have := hnv.2.1 (fr - 1) (by omega) (by omega)
              rw [b]; exact this.2.2.1
          have k1 := cw_up (f := wt) (v := wt i + n1) x0 x1 hs
          have k2 := cw_one (f := wt) hwt2 x0 x1 hs
          refine ⟨_, _, _, _, _, _, _, _, _, _, _, _, _, _, _, _, _, _, _, _, _, _, _, _, _, rfl, rfl, ?_⟩
          refine ⟨⟨hw, hnv, ⟨c1, c2, by omega⟩, ⟨hf1, hf2, hi0, hk0, ho0⟩, hkd, hfo, hfmo, ⟨hc0, hc3, hev2, ho1, ho2⟩, hsm, hky, fun j x y => ?_, ⟨by omega, by omega⟩, hse⟩, hmt, hml, hfm, hmi, fun j x y => ?_, by omega, by omega, by omega⟩
          · by_cases hj : j = i
            · have := hwt2 i x0 x1
              rw [hj, up_s]; omega
            · rw [up_n hj]; exact hwt2 j x y
          · by_cases hj : j = i
            · rw [hj, up_s]; omega
            · rw [up_n hj]; exact hwt j x y
theorem op_stale {i : Int} {ky wt sa ea sm ln fi fk fo op : Int → Int} {ni ns ev cu wa fr oo : Int} {mt ml mf mx mi mg : Int → Int} {K th n z w : Int} {u : SX_} {v : SM_} (h : cp_ ky wt sa ea sm ln fi fk fo op ni ns ev cu wa fr oo mt ml mf mx mi K n) (hn : n < 512) (hx : (z = 0 ∧ u = (ky, wt, sa, ea, sm, ln, fi, fk, fo, op, ni, ns, ev, cu, wa, fr, oo) ∧ (i < 0 ∨ 600 ≤ i ∨ sa i = -1 ∨ ea i = -1 ∨ sm i = 1)) ∨ (z = 1 ∧ 0 ≤ i ∧ i < 600 ∧ sa i ≠ -1 ∧ ea i ≠ -1 ∧ sm i = 0 ∧ u = (ky, wt, sa, ea, up_ sm i 1, ln, fi, fk, fo, op, ni, ns + 1, ev, cu, wa, fr, oo))) (hm : (w = 0 ∧ v = (mt, ky, wt, sm, ml, mf, mx, op, mi, mg, 0, ni, K, ev, cu, fr, oo) ∧ (i < 0 ∨ 600 ≤ i ∨ sa i = -1 ∨ ea i = -1 ∨ sm i = 1)) ∨ (w = 1 ∧ 0 ≤ i ∧ i < 600 ∧ sa i ≠ -1 ∧ ea i ≠ -1 ∧ sm i = 0 ∧ v = (mt, ky, wt, up_ sm i 1, ml, mf, mx, op, mi, mg, 0, ni, K, ev, cu, fr, oo))) : z = w ∧ cc_ (n + 1) u v := by
  have hu := cp_up h
  obtain ⟨hI, hmt, hml, hfm, hmi, hwt, hev, hoo, hni⟩ := id h
  obtain ⟨hw, hnv, hct, ⟨hf1, hf2, hi0, hk0, ho0⟩, hkd, hfo, hfmo, ⟨hc0, hc3, hev2, ho1, ho2⟩, hsm, hky, hwt2, ⟨hK0, hwa⟩, hse⟩ := id hI
  have hlast := (hfm (fr - 1) (by omega) (by omega)).2
  have hlf := (hfm (fr - 1) (by omega) (by omega)).1
  have hop := cp_open h
  have hlm : lm_ mf ea ev fr = lm_ fi ea ev fr := cp_lm hlf
  have hxf := ix_f hI
  obtain ⟨c1, c2, c3⟩ := id hct
  rcases hx with ⟨e, rfl, hx⟩ | ⟨z0, z1, z2, z3, z4, z5, rfl⟩
  · rcases hm with ⟨e', rfl, hm⟩ | ⟨y0, y1, y2, y3, y4, y5, rfl⟩
    · exact ⟨by omega, _, _, _, _, _, _, _, _, _, _, _, _, _, _, _, _, _, _, _, _, _, _, _, _, _, rfl, rfl, hu⟩
    · exfalso; omega
  · rcases hm with ⟨e', rfl, hm⟩ | ⟨y0, y1, y2, y3, y4, y5, rfl⟩
    · exfalso; omega
    · refine ⟨by omega, _, _, _, _, _, _, _, _, _, _, _, _, _, _, _, _, _, _, _, _, _, _, _, _, _, rfl, rfl, ?_⟩
      have k1 := cw_up (f := sm) (v := 1) z1 z2 z3
      refine ⟨⟨hw, hnv, ⟨c1, by omega, c3⟩, ⟨hf1, hf2, hi0, hk0, ho0⟩, hkd, hfo, hfmo, ⟨hc0, hc3, hev2, ho1, ho2⟩, fun j x y => ?_, hky, hwt2, ⟨hK0, hwa⟩, fun j x y n1 n2 => ?_⟩, hmt, hml, hfm, hmi, hwt, by omega, by omega, by omega⟩
      · by_cases hj : j = i
        · rw [hj, up_s]; exact Or.inr rfl
        · rw [up_n hj]; exact hsm j x y
      · by_cases hj : j = i
        · rw [hj]; exact z4
        · rw [up_n hj] at n2; exact hse j x y n1 n2
theorem op_toEnd {ky wt sa ea sm ln fi fk fo op : Int → Int} {ni ns ev cu wa fr oo : Int} {mt ml mf mx mi mg : Int → Int} {K th n z w : Int} {u : SX_} {v : SM_} (h : cp_ ky wt sa ea sm ln fi fk fo op ni ns ev cu wa fr oo mt ml mf mx mi K n) (hn : n < 512) (hx : (z = 1 ∧ fr = 1 ∧ oo ≤ fo (fr - 1) ∧ u = (ky, wt, sa, ea, sm, ln, fi, fk, fo, op, ni, ns, ev, ev, wa, fr, oo)) ∨ (z = 0 ∧ (fr ≠ 1 ∨ fo (fr - 1) < oo) ∧ u = (ky, wt, sa, ea, sm, ln, fi, fk, fo, op, ni, ns, ev, cu, wa, fr, oo))) (hm : (w = 1 ∧ fr = 1 ∧ oo = 0 ∧ v = (mt, ky, wt, sm, ml, mf, mx, op, mi, mg, 0, ni, K, ev, ev, fr, oo)) ∨ (w = 0 ∧ (fr ≠ 1 ∨ oo ≠ 0) ∧ v = (mt, ky, wt, sm, ml, mf, mx, op, mi, mg, 0, ni, K, ev, cu, fr, oo))) : z = w ∧ cc_ (n + 1) u v := by
  have hu := cp_up h
  obtain ⟨hI, hmt, hml, hfm, hmi, hwt, hev, hoo, hni⟩ := id h
  obtain ⟨hw, hnv, hct, ⟨hf1, hf2, hi0, hk0, ho0⟩, hkd, hfo, hfmo, ⟨hc0, hc3, hev2, ho1, ho2⟩, hsm, hky, hwt2, ⟨hK0, hwa⟩, hse⟩ := id hI
  have hlast := (hfm (fr - 1) (by omega) (by omega)).2
  have hlf := (hfm (fr - 1) (by omega) (by omega)).1
  have hop := cp_open h
  have hlm : lm_ mf ea ev fr = lm_ fi ea ev fr := cp_lm hlf
  have hxf := ix_f hI
  rcases hx with ⟨e, x1, x2, rfl⟩ | ⟨e, hx, rfl⟩
  · have e0 : fo (fr - 1) = 0 := by rw [x1]; exact ho0
    rcases hm with ⟨e', m1, m2, rfl⟩ | ⟨e', hm, rfl⟩
    · refine ⟨by omega, _, _, _, _, _, _, _, _, _, _, _, _, _, _, _, _, _, _, _, _, _, _, _, _, _, rfl, rfl, ?_⟩
      exact ⟨⟨hw, nv_free hnv (by omega) (by omega) ev, hct, ⟨hf1, hf2, hi0, hk0, ho0⟩, hkd, hfo, hfmo, ⟨by omega, by omega, hev2, ho1, ho2⟩, hsm, hky, hwt2, ⟨hK0, hwa⟩, hse⟩, hmt, hml, hfm, hmi, hwt, by omega, by omega, by omega⟩
    · exfalso; omega
  · rcases hm with ⟨e', m1, m2, rfl⟩ | ⟨e', hm, rfl⟩
    · exfalso
      have e0 : fo (fr - 1) = 0 := by rw [m1]; exact ho0
      omega
    · exact ⟨by omega, _, _, _, _, _, _, _, _, _, _, _, _, _, _, _, _, _, _, _, _, _, _, _, _, _, rfl, rfl, hu⟩
theorem op_toBegin {ky wt sa ea sm ln fi fk fo op : Int → Int} {ni ns ev cu wa fr oo : Int} {mt ml mf mx mi mg : Int → Int} {K th n z w : Int} {u : SX_} {v : SM_} (h : cp_ ky wt sa ea sm ln fi fk fo op ni ns ev cu wa fr oo mt ml mf mx mi K n) (hn : n < 512) (hx : (z = 1 ∧ fr = 1 ∧ oo ≤ fo (fr - 1) ∧ u = (ky, wt, sa, ea, sm, ln, fi, fk, fo, op, ni, ns, ev, 0, wa, fr, oo)) ∨ (z = 0 ∧ (fr ≠ 1 ∨ fo (fr - 1) < oo) ∧ u = (ky, wt, sa, ea, sm, ln, fi, fk, fo, op, ni, ns, ev, cu, wa, fr, oo))) (hm : (w = 1 ∧ fr = 1 ∧ oo = 0 ∧ v = (mt, ky, wt, sm, ml, mf, mx, op, mi, mg, 0, ni, K, ev, 0, fr, oo)) ∨ (w = 0 ∧ (fr ≠ 1 ∨ oo ≠ 0) ∧ v = (mt, ky, wt, sm, ml, mf, mx, op, mi, mg, 0, ni, K, ev, cu, fr, oo))) : z = w ∧ cc_ (n + 1) u v := by
  have hu := cp_up h
  obtain ⟨hI, hmt, hml, hfm, hmi, hwt, hev, hoo, hni⟩ := id h
  obtain ⟨hw, hnv, hct, ⟨hf1, hf2, hi0, hk0, ho0⟩, hkd, hfo, hfmo, ⟨hc0, hc3, hev2, ho1, ho2⟩, hsm, hky, hwt2, ⟨hK0, hwa⟩, hse⟩ := id hI
  have hlast := (hfm (fr - 1) (by omega) (by omega)).2
  have hlf := (hfm (fr - 1) (by omega) (by omega)).1
  have hop := cp_open h
  have hlm : lm_ mf ea ev fr = lm_ fi ea ev fr := cp_lm hlf
  have hxf := ix_f hI
  rcases hx with ⟨e, x1, x2, rfl⟩ | ⟨e, hx, rfl⟩
  · have e0 : fo (fr - 1) = 0 := by rw [x1]; exact ho0
    rcases hm with ⟨e', m1, m2, rfl⟩ | ⟨e', hm, rfl⟩
    · refine ⟨by omega, _, _, _, _, _, _, _, _, _, _, _, _, _, _, _, _, _, _, _, _, _, _, _, _, _, rfl, rfl, ?_⟩
      exact ⟨⟨hw, nv_free hnv (by omega) (by omega) 0, hct, ⟨hf1, hf2, hi0, hk0, ho0⟩, hkd, hfo, hfmo, ⟨by omega, by omega, hev2, ho1, ho2⟩, hsm, hky, hwt2, ⟨hK0, hwa⟩, hse⟩, hmt, hml, hfm, hmi, hwt, by omega, by omega, by omega⟩
    · exfalso; omega
  · rcases hm with ⟨e', m1, m2, rfl⟩ | ⟨e', hm, rfl⟩
    · exfalso
      have e0 : fo (fr - 1) = 0 := by rw [m1]; exact ho0
      omega
    · exact ⟨by omega, _, _, _, _, _, _, _, _, _, _, _, _, _, _, _, _, _, _, _, _, _, _, _, _, _, rfl, rfl, hu⟩
theorem op_event {k : Int} {ky wt sa ea sm ln fi fk fo op : Int → Int} {ni ns ev cu wa fr oo : Int} {mt ml mf mx mi mg : Int → Int} {K th n z w : Int} {u : SX_} {v : SM_} (h : cp_ ky wt sa ea sm ln fi fk fo op ni ns ev cu wa fr oo mt ml mf mx mi K n) (hn : n < 512) (hx : u = (ky, wt, sa, ea, sm, ln, fi, fk, fo, op, ni, ns, ev, cu, wa, fr, oo) ∧ ((0 ≤ k ∧ k < ev ∧ z = ln k) ∨ ((k < 0 ∨ ev ≤ k) ∧ z = -1))) (hm : v = (mt, ky, wt, sm, ml, mf, mx, op, mi, mg, 0, ni, K, ev, cu, fr, oo) ∧ ((0 ≤ k ∧ k < ev ∧ w = ml k) ∨ ((k < 0 ∨ ev ≤ k) ∧ w = -1))) : z = w ∧ cc_ (n + 1) u v := by
  have hu := cp_up h
  obtain ⟨hI, hmt, hml, hfm, hmi, hwt, hev, hoo, hni⟩ := id h
  obtain ⟨hw, hnv, hct, ⟨hf1, hf2, hi0, hk0, ho0⟩, hkd, hfo, hfmo, ⟨hc0, hc3, hev2, ho1, ho2⟩, hsm, hky, hwt2, ⟨hK0, hwa⟩, hse⟩ := id hI
  have hlast := (hfm (fr - 1) (by omega) (by omega)).2
  have hlf := (hfm (fr - 1) (by omega) (by omega)).1
  have hop := cp_open h
  have hlm : lm_ mf ea ev fr = lm_ fi ea ev fr := cp_lm hlf
  have hxf := ix_f hI
  obtain ⟨rfl, hx⟩ := hx
  obtain ⟨rfl, hm⟩ := hm
  refine ⟨?_, _, _, _, _, _, _, _, _, _, _, _, _, _, _, _, _, _, _, _, _, _, _, _, _, _, rfl, rfl, hu⟩
  rcases hx with ⟨x0, x1, x2⟩ | ⟨x0, x1⟩
  · have := hml k x0 x1
    omega
  · omega
theorem wh_cases (wh : Int) : wh = 0 ∨ wh = 1 ∨ wh = 2 ∨ wh = 3 ∨ wh = 4 ∨ wh = 5 ∨ wh = 6 ∨ wh = 7 ∨ wh = 8 ∨ wh = 9 ∨ (wh < 0 ∨ 9 < wh) := by omega
theorem op_look {wh : Int} {ky wt sa ea sm ln fi fk fo op : Int → Int} {ni ns ev cu wa fr oo : Int} {mt ml mf mx mi mg : Int → Int} {K th n z w : Int} {u : SX_} {v : SM_} (h : cp_ ky wt sa ea sm ln fi fk fo op ni ns ev cu wa fr oo mt ml mf mx mi K n) (hn : n < 512) (hx : u = (ky, wt, sa, ea, sm, ln, fi, fk, fo, op, ni, ns, ev, cu, wa, fr, oo) ∧ (wh = 0 → z = ni) ∧ (wh = 1 → z = ev) ∧ (wh = 2 → z = cu) ∧ (wh = 3 → z = fr) ∧ (wh = 4 → z = wa) ∧ (wh = 5 → z = ns) ∧ (wh = 6 → z = fi (fr - 1)) ∧ (wh = 7 → (fo (fr - 1) < oo → z = op (oo - 1)) ∧ (oo ≤ fo (fr - 1) → z = -1)) ∧ (wh = 8 → z = fk (fr - 1)) ∧ (wh = 9 → z = lm_ fi ea ev fr - cu) ∧ (wh < 0 ∨ 9 < wh → z = -1)) (hm : v = (mt, ky, wt, sm, ml, mf, mx, op, mi, mg, 0, ni, K, ev, cu, fr, oo) ∧ (wh = 0 → w = ni) ∧ (wh = 1 → w = ev) ∧ (wh = 2 → w = cu) ∧ (wh = 3 → w = fr) ∧ (wh = 4 → w = K + sg_ (cw_ sa wt) 600) ∧ (wh = 5 → w = sg_ (cw_ sa sm) 600) ∧ (wh = 6 → w = mf (fr - 1)) ∧ (wh = 7 → (0 < oo ∧ mi (oo - 1) = fr - 1 → w = op (oo - 1)) ∧ ((oo ≤ 0 ∨ mi (oo - 1) ≠ fr - 1) → w = -1)) ∧ (wh = 8 → (fr = 1 → w = 0) ∧ (1 < fr → w = 1 + mx (fr - 1))) ∧ (wh = 9 → w = (lm_ mf ea ev fr) - cu) ∧ (wh < 0 ∨ 9 < wh → w = -1)) : z = w ∧ cc_ (n + 1) u v := by
  have hu := cp_up h
  obtain ⟨hI, hmt, hml, hfm, hmi, hwt, hev, hoo, hni⟩ := id h
  obtain ⟨hw, hnv, hct, ⟨hf1, hf2, hi0, hk0, ho0⟩, hkd, hfo, hfmo, ⟨hc0, hc3, hev2, ho1, ho2⟩, hsm, hky, hwt2, ⟨hK0, hwa⟩, hse⟩ := id hI
  have hlast := (hfm (fr - 1) (by omega) (by omega)).2
  have hlf := (hfm (fr - 1) (by omega) (by omega)).1
  have hop := cp_open h
  have hlm : lm_ mf ea ev fr = lm_ fi ea ev fr := cp_lm hlf
  have hxf := ix_f hI
  obtain ⟨c1, c2, c3⟩ := id hct
  obtain ⟨rfl, x0, x1, x2, x3, x4, x5, x6, x7, x8, x9, x10⟩ := hx
  obtain ⟨rfl, m0, m1, m2, m3, m4, m5, m6, m7, m8, m9, m10⟩ := hm
  refine ⟨?_, _, _, _, _, _, _, _, _, _, _, _, _, _, _, _, _, _, _, _, _, _, _, _, _, _, rfl, rfl, hu⟩
  rcases wh_cases wh with q | q | q | q | q | q | q | q | q | q | q
  · rw [x0 q, m0 q]
  · rw [x1 q, m1 q]
  · rw [x2 q, m2 q]
  · rw [x3 q, m3 q]
  · rw [x4 q, m4 q]; exact c3
  · rw [x5 q, m5 q]; exact c2
  · rw [x6 q, m6 q]; exact hlf.symm
  · have a := x7 q
    have b := m7 q
    by_cases ho : fo (fr - 1) < oo
    · rw [a.1 ho, b.1 (hop.mp ho)]
    · have ho' : oo ≤ 0 ∨ mi (oo - 1) ≠ fr - 1 := by
        rcases Int.lt_or_le 0 oo with t | t
        · exact Or.inr (fun q => ho (hop.mpr ⟨t, q⟩))
        · exact Or.inl t
      rw [a.2 (Int.not_lt.mp ho), b.2 ho']
  · have a := x8 q
    have b := m8 q
    have t1 := hxf.2.2.2.2.2.2.1
    have t2 := hxf.2.2.2.2.2.2.2.1
    by_cases ho : fr = 1
    · rw [a, b.1 ho]; exact t2.mpr ho
    · rw [a, b.2 (Int.lt_iff_le_and_ne.mpr ⟨hf1, Ne.symm ho⟩)]
      rcases hlast with ⟨p, q⟩ | ⟨p, q⟩
      · rw [p, q]; rfl
      · rw [q]
        rcases t1 with t | t | t
        · exact absurd (t2.mp t) ho
        · rw [t]; rfl
        · exact absurd t p
  · rw [x9 q, m9 q, hlm]
  · rw [x10 q, m10 q]
end
section
theorem er_mv {sa ea ln sa2 ea2 ln2 : Int → Int} {ev a b c : Int} (hw : pw_ sa ea ln ev) (h : er_ sa ea ln ev a b sa2 ea2 ln2) : mv2_ sa ea c (rz_ (gp_ ln a b)) sa2 ea2 (rz_ (gp_ ln a b) c) := by
  obtain ⟨w1, w2, w3, w4⟩ := hw
  obtain ⟨b2, b3⟩ := h
  refine ⟨rfl, fun j x y n => ?_⟩
  by_cases hs : sa j = -1 ∨ fg_ ln a b j
  · exact absurd ((b3 j x y).1 hs) n
  have hs1 : sa j ≠ -1 := fun z => hs (Or.inl z)
  have hs2 : ¬ fg_ ln a b j := fun z => hs (Or.inr z)
  obtain ⟨u1, u2, u3⟩ := (b3 j x y).2 hs1 hs2
  rcases w2 j x y with t | ⟨t, t', t''⟩
  · exact absurd t hs1
  have k1 : ¬ gp_ ln a b (sa j) := by
    show ¬ fg_ ln a b (ln (sa j) / 2)
    rw [t'', show 2 * j / 2 = j by omega]; exact hs2
  refine ⟨hs1, u1, u2, fun e => ⟨u3 e, ?_⟩, fun q q0 => (rz_lt t q0 k1).symm, fun e q q0 => ?_⟩
  · have v := w3 j x y hs1
    have := rz_nn (gp_ ln a b) (show 0 ≤ ea j by omega)
    rw [u3 e]; omega
  · rcases w3 j x y hs1 with v | ⟨v, v', v''⟩
    · exact absurd v e
    · refine (rz_lt (by omega) q0 ?_).symm
      show ¬ fg_ ln a b (ln (ea j) / 2)
      rw [v'', show (2 * j + 1) / 2 = j by omega]; exact hs2
/-- an interval that has no event among the erased stays -/
theorem er_stay {sa ea ln sa2 ea2 ln2 : Int → Int} {ev a b j : Int} (hw : pw_ sa ea ln ev) (h : er_ sa ea ln ev a b sa2 ea2 ln2) (ha : 0 ≤ a) (hb : b ≤ ev) (j0 : 0 ≤ j) (j1 : j < 600) (hs : sa j ≠ -1) (h1 : sa j < a ∨ b ≤ sa j) (h2 : ea j < a ∨ b ≤ ea j) : sa2 j = rz_ (gp_ ln a b) (sa j) ∧ sa2 j ≠ -1 ∧ (ea j = -1 → ea2 j = -1) ∧ (ea j ≠ -1 → ea2 j = rz_ (gp_ ln a b) (ea j)) ∧ ¬ fg_ ln a b j := by
  have nf := nfg_ hw ha hb h1 h2
  obtain ⟨u1, u2, u3⟩ := (h.2 j j0 j1).2 hs nf
  have w2 := hw.2.1 j j0 j1
  have := rz_nn (gp_ ln a b) (show 0 ≤ sa j by omega)
  exact ⟨u1, by rw [u1]; omega, u2, u3, nf⟩
theorem er_nv {sa ea ln sa2 ea2 ln2 fi fo op : Int → Int} {ev cu b fr oo : Int} (hw : pw_ sa ea ln ev) (hnv : nv_ sa ea cu fi fo fr op oo) (hc0 : 0 ≤ cu) (hb : b ≤ ev) (hbl : ∀ f : Int, 1 ≤ f → f < fr → b ≤ ea (fi f)) (h : er_ sa ea ln ev cu b sa2 ea2 ln2) : nv_ sa2 ea2 (rz_ (gp_ ln cu b) cu) fi fo fr op oo := by
  have hfe := nv_fe hnv
  refine nv_move2 hnv (er_mv hw h) (fun j x y n => ?_) hc0 (fun f f0 f1 => ?_) (fun f f0 f1 => ?_) (fun t t0 t1 => ?_)
  · have a := hw.2.1 j x y
    have b := hw.2.2.1 j x y n
    exact ⟨by omega, fun _ => by omega⟩
  · have p := hnv.2.1 f f0 f1
    have q := hfe f f0 f1
    have r := hbl f f0 f1
    have st := er_stay hw h hc0 hb p.1 p.2.1 p.2.2.1 (Or.inl q.2) (Or.inr r)
    have w3 := hw.2.2.1 _ p.1 p.2.1 p.2.2.1
    refine rz_stay (by omega) ?_
    show ¬ fg_ ln cu b (ln (ea (fi f)) / 2)
    have e : ln (ea (fi f)) = 2 * fi f + 1 := by omega
    rw [e, show (2 * fi f + 1) / 2 = fi f by omega]
    exact st.2.2.2.2
  · have p := hnv.2.1 f f0 f1
    have q := hfe f f0 f1
    exact (er_stay hw h hc0 hb p.1 p.2.1 p.2.2.1 (Or.inl q.2) (Or.inr (hbl f f0 f1))).2.1
  · have p := hnv.2.2.2.2.1 t t0 t1
    exact (er_stay hw h hc0 hb p.1 p.2.1 p.2.2.1 (Or.inl p.2.2.2.2) (Or.inl (by omega))).2.1
theorem fg_cg {ln ml : Int → Int} {ev a b j : Int} (hl : ∀ k : Int, 0 ≤ k → k < ev → ml k = ln k) (ha : 0 ≤ a) (hb : b ≤ ev) : fg_ ml a b j ↔ fg_ ln a b j := by
  constructor
  · intro ⟨k, k0, k1, k2⟩
    exact ⟨k, k0, k1, by rw [← hl k (by omega) (by omega)]; exact k2⟩
  · intro ⟨k, k0, k1, k2⟩
    exact ⟨k, k0, k1, by rw [hl k (by omega) (by omega)]; exact k2⟩
theorem rz_cg {ln ml : Int → Int} {ev a b p : Int} (hl : ∀ k : Int, 0 ≤ k → k < ev → ml k = ln k) (ha : 0 ≤ a) (hb : b ≤ ev) (hp : p ≤ ev) : rz_ (gp_ ml a b) p = rz_ (gp_ ln a b) p := rz_congr (fun j j0 j1 => by
  show fg_ ml a b (ml j / 2) ↔ fg_ ln a b (ln j / 2)
  rw [hl j j0 (by omega)]
  exact fg_cg hl ha hb)
/-- class and reference erase the same -/
theorem er_same {sa ea ln ml sa2 ea2 ln2 sa3 ea3 ml2 : Int → Int} {ev a b : Int} (hw : pw_ sa ea ln ev) (hl : ∀ k : Int, 0 ≤ k → k < ev → ml k = ln k) (ha : 0 ≤ a) (hb : b ≤ ev) (h : er_ sa ea ln ev a b sa2 ea2 ln2) (h' : er_ sa ea ml ev a b sa3 ea3 ml2) :
    (∀ j : Int, 0 ≤ j → j < 600 → sa3 j = sa2 j ∧ (sa2 j ≠ -1 → ea3 j = ea2 j)) ∧ (∀ k : Int, 0 ≤ k → k < rz_ (gp_ ln a b) ev → ml2 k = ln2 k) := by
  refine ⟨fun j x y => ?_, fun k x y => ?_⟩
  · have q1 := h.2 j x y
    have q2 := h'.2 j x y
    have w2 := hw.2.1 j x y
    by_cases hs : sa j = -1 ∨ fg_ ln a b j
    · have e := q1.1 hs
      have e' := q2.1 (hs.imp id (fun t => (fg_cg hl ha hb).mpr t))
      exact ⟨by rw [e, e'], fun n => absurd e n⟩
    · have hs1 : sa j ≠ -1 := fun z => hs (Or.inl z)
      have hs2 : ¬ fg_ ln a b j := fun z => hs (Or.inr z)
      obtain ⟨u1, u2, u3⟩ := q1.2 hs1 hs2
      obtain ⟨v1, v2, v3⟩ := q2.2 hs1 (fun t => hs2 ((fg_cg hl ha hb).mp t))
      refine ⟨by rw [u1, v1]; exact rz_cg hl ha hb (by omega), fun _ => ?_⟩
      by_cases he : ea j = -1
      · rw [u2 he, v2 he]
      · have w3 := hw.2.2.1 j x y hs1
        rw [u3 he, v3 he]; exact rz_cg hl ha hb (by omega)
  · obtain ⟨z, z0, z1, z2, z3⟩ := rz_onto hw.1.1 x y
    have e1 := h.1 z z0 z1 z2
    have e2 := h'.1 z z0 z1 (fun t => z2 (by
      have t' : fg_ ml a b (ml z / 2) := t
      rw [hl z z0 z1] at t'
      exact (fg_cg hl ha hb).mp t'))
    rw [rz_cg hl ha hb (by omega : z ≤ ev)] at e2
    rw [← z3, e1, e2]; exact hl z z0 z1
theorem rz_const {g : Int → Prop} {a : Int} (ha : 0 ≤ a) : ∀ (d : Nat), (∀ p : Int, a ≤ p → p < a + d → g p) → rz_ g (a + d) = rz_ g a
  | 0, _ => by simp
  | d + 1, H => by
    have i := rz_const ha d (fun p x y => H p x (by omega))
    have s := rz_go (g := g) (z := a + d) (by omega) (H (a + d) (by omega) (by omega))
    rw [show a + ((d + 1 : Nat) : Int) = a + d + 1 by omega, s]
    exact i
theorem op_resume {ky wt sa ea sm ln fi fk fo op : Int → Int} {ni ns ev cu wa fr oo : Int} {mt ml mf mx mi mg : Int → Int} {K th n z w : Int} {u : SX_} {v : SM_} (h : cp_ ky wt sa ea sm ln fi fk fo op ni ns ev cu wa fr oo mt ml mf mx mi K n) (hn : n < 512) (hx : (z = -1 ∧ u = (ky, wt, sa, ea, sm, ln, fi, fk, fo, op, ni, ns, ev, cu, wa, fr, oo) ∧ (fk (fr - 1) = 1 ∨ fo (fr - 1) < oo ∨ fr = 64 ∨ ∀ k : Int, cu ≤ k → k < (lm_ fi ea ev fr) → ¬ (fun k => ln k % 2 = 0 ∧ sm (ln k / 2) = 1) k)) ∨ (fk (fr - 1) ≠ 1 ∧ oo ≤ fo (fr - 1) ∧ fr < 64 ∧ ∃ k : Int, cu ≤ k ∧ k < (lm_ fi ea ev fr) ∧ (fun k => ln k % 2 = 0 ∧ sm (ln k / 2) = 1) k ∧ (∀ j : Int, cu ≤ j → j < k → ¬ (fun k => ln k % 2 = 0 ∧ sm (ln k / 2) = 1) j) ∧ z = ln k / 2 ∧ u = (ky, up_ wt (ln k / 2) 0, sa, ea, up_ sm (ln k / 2) 0, ln, up_ fi fr (ln k / 2), up_ fk fr 1, up_ fo fr oo, op, ni, ns - 1, ev, sa (ln k / 2) + 1, wa - wt (ln k / 2), fr + 1, oo))) (hm : (w = -1 ∧ v = (mt, ky, wt, sm, ml, mf, mx, op, mi, mg, 0, ni, K, ev, cu, fr, oo) ∧ ((1 < fr ∧ mx (fr - 1) = 0) ∨ (0 < oo ∧ mi (oo - 1) = fr - 1) ∨ fr = 64 ∨ ∀ k : Int, cu ≤ k → k < (lm_ mf ea ev fr) → ¬ (fun k => ml k % 2 = 0 ∧ sm (ml k / 2) = 1) k)) ∨ ((fr ≤ 1 ∨ mx (fr - 1) = 1) ∧ (oo ≤ 0 ∨ mi (oo - 1) ≠ fr - 1) ∧ fr < 64 ∧ ∃ k : Int, cu ≤ k ∧ k < (lm_ mf ea ev fr) ∧ (fun k => ml k % 2 = 0 ∧ sm (ml k / 2) = 1) k ∧ (∀ j : Int, cu ≤ j → j < k → ¬ (fun k => ml k % 2 = 0 ∧ sm (ml k / 2) = 1) j) ∧ w = ml k / 2 ∧ v = (mt, ky, up_ wt (ml k / 2) 0, up_ sm (ml k / 2) 0, ml, up_ mf fr (ml k / 2), up_ mx fr 0, op, mi, mg, 0, ni, K, ev, sa (ml k / 2) + 1, fr + 1, oo))) : z = w ∧ cc_ (n + 1) u v := by
  have hu := cp_up h
  obtain ⟨hI, hmt, hml, hfm, hmi, hwt, hev, hoo, hni⟩ := id h
  obtain ⟨hw, hnv, hct, ⟨hf1, hf2, hi0, hk0, ho0⟩, hkd, hfo, hfmo, ⟨hc0, hc3, hev2, ho1, ho2⟩, hsm, hky, hwt2, ⟨hK0, hwa⟩, hse⟩ := id hI
  have hlast := (hfm (fr - 1) (by omega) (by omega)).2
  have hlf := (hfm (fr - 1) (by omega) (by omega)).1
  have hop := cp_open h
  have hlm : lm_ mf ea ev fr = lm_ fi ea ev fr := cp_lm hlf
  have hxf := ix_f hI
  obtain ⟨g1, g2, g3, g4, g5, g6, g7, g8, g9, g10, g11⟩ := hxf
  rw [hlm] at hm
  have hps : ∀ k : Int, cu ≤ k → k < lm_ fi ea ev fr → ml k = ln k := fun k a b => hml k (by omega) (by omega)
  rcases hx with ⟨e, rfl, hx⟩ | ⟨z0, z1, z2, k, k0, k1, k2, k3, k4, rfl⟩
  · rcases hm with ⟨e', rfl, hm⟩ | ⟨y0, y1, y2, j, j0, j1, j2, j3, j4, rfl⟩
    · exact ⟨by omega, _, _, _, _, _, _, _, _, _, _, _, _, _, _, _, _, _, _, _, _, _, _, _, _, _, rfl, rfl, hu⟩
    · exfalso
      rcases hx with hx | hx | hx | hx
      · omega
      · have := hop.mp hx; omega
      · omega
      · exact hx j j0 j1 (by rw [hps j j0 j1] at j2; exact j2)
  · rcases hm with ⟨e', rfl, hm⟩ | ⟨y0, y1, y2, j, j0, j1, j2, j3, j4, rfl⟩
    · exfalso
      rcases hm with hm | hm | hm | hm
      · omega
      · have := hop.mpr hm; omega
      · omega
      · exact hm k k0 k1 (by show ml k % 2 = 0 ∧ sm (ml k / 2) = 1; rw [hps k k0 k1]; exact k2)
    · have hkj : k = j := by
        rcases Int.lt_trichotomy k j with q | q | q
        · exact absurd (j3 k k0 q) (fun t => t (by show ml k % 2 = 0 ∧ sm (ml k / 2) = 1; rw [hps k k0 k1]; exact k2))
        · exact q
        · exact absurd (by rw [hps j j0 j1] at j2; exact j2) (k3 j j0 q)
      subst hkj
      rw [hps k k0 k1] at j4
      refine ⟨by omega, _, _, _, _, _, _, _, _, _, _, _, _, _, _, _, _, _, _, _, _, _, _, _, _, _, rfl, (by rw [hps k k0 k1]), ?_⟩
      obtain ⟨d1, d2, d3, d4⟩ := hw.2.2.2 k (by omega) (by omega)
      have d5 := d3 k2.1
      have d6 := k2.2
      generalize hi : ln k / 2 = i at d5 d6 ⊢
      have i0 : 0 ≤ i := by omega
      have i1 : i < 600 := by omega
      have hs : sa i ≠ -1 := by omega
      have he := hse i i0 i1 hs d6
      obtain ⟨c1, c2, c3⟩ := id hct
      have q1 := cw_up (f := sm) (v := 0) i0 i1 hs
      have q2 := cw_up (f := wt) (v := 0) i0 i1 hs
      have q3 := hwt2 i i0 i1
      have q4 := hw.2.1 i i0 i1
      have hlm2 : 1 < fr → lm_ fi ea ev fr = ea (fi (fr - 1)) := fun t => by unfold lm_; rw [if_neg (by omega)]
      refine ⟨⟨hw, ?_, ⟨c1, by omega, by omega⟩, ⟨by omega, by omega, by rw [up_n (by omega)]; exact hi0, by rw [up_n (by omega)]; exact hk0, by rw [up_n (by omega)]; exact ho0⟩, fun f f0 f1 => ?_, fun f f0 f1 => ?_, fun f f0 f1 => ?_, ⟨by omega, by omega, hev2, ho1, ho2⟩, fun j x y => ?_, hky, fun j x y => ?_, ⟨hK0, by omega⟩, fun j x y n1 n2 => ?_⟩, hmt, hml, fun f f0 f1 => ?_, fun t t0 t1 => ?_, fun j x y => ?_, by omega, by omega, by omega⟩
      · exact nv_push hw hnv hf1 (fun _ => g3) i0 i1 hs he (by omega) (fun t => by have := hlm2 t; omega) (fun t => by omega) (fun f q => ⟨up_n (by omega), up_n (by omega)⟩) (up_s _ _ _) (up_s _ _ _) hc0
      · by_cases hf : f = fr
        · rw [hf, up_s]; exact Or.inl rfl
        · rw [up_n hf]; exact hkd f f0 (by omega)
      · by_cases hf : f = fr
        · rw [hf, up_s]; omega
        · rw [up_n hf]; exact hfo f f0 (by omega)
      · rw [up_n (show f ≠ fr by omega)]
        by_cases hf : f + 1 = fr
        · rw [hf, up_s]; exact (hfo f f0 (by omega)).2
        · rw [up_n hf]; exact hfmo f f0 (by omega)
      · by_cases hj : j = i
        · rw [hj, up_s]; exact Or.inl rfl
        · rw [up_n hj]; exact hsm j x y
      · by_cases hj : j = i
        · rw [hj, up_s]; omega
        · rw [up_n hj]; exact hwt2 j x y
      · by_cases hj : j = i
        · rw [hj, up_s] at n2; omega
        · rw [up_n hj] at n2; exact hse j x y n1 n2
      · by_cases hf : f = fr
        · rw [hf, up_s, up_s, up_s, up_s]; exact ⟨rfl, Or.inr ⟨by omega, rfl⟩⟩
        · rw [up_n hf, up_n hf, up_n hf, up_n hf]; exact hfm f f0 (by omega)
      · obtain ⟨m1, m2, m3, m4⟩ := hmi t t0 t1
        refine ⟨m1, by omega, by rw [up_n (by omega)]; exact m3, fun q => ?_⟩
        by_cases hf : mi t + 1 = fr
        · rw [hf, up_s]; exact t1
        · rw [up_n hf]; exact m4 (by omega)
      · by_cases hj : j = i
        · rw [hj, up_s]; omega
        · rw [up_n hj]; exact hwt j x y
end
section
theorem sg_mono {g h : Int → Int} : ∀ (n : Nat), (∀ j : Int, 0 ≤ j → j < n → g j ≤ h j) → sg_ g n ≤ sg_ h n
  | 0, _ => Int.le_refl _
  | n + 1, H => by
    show sg_ g n + g n ≤ sg_ h n + h n
    have a := sg_mono n (fun j x y => H j x (by omega))
    have b := H n (by omega) (by omega)
    omega
theorem nv_fl {sa ea fi fo op : Int → Int} {cu fr oo : Int} (h : nv_ sa ea cu fi fo fr op oo) : ∀ f : Int, 1 ≤ f → f < fr → ea (fi (fr - 1)) ≤ ea (fi f) := by
  have key : ∀ (k : Nat) (g : Int), 1 ≤ g → g < fr → g = fr - 1 - k → ea (fi (fr - 1)) ≤ ea (fi g) := by
    intro k
    induction k with
    | zero => intro g g0 g1 g2; rw [show g = fr - 1 by omega]; omega
    | succ k ih =>
      intro g g0 g1 g2
      have b1 := ih (g + 1) (by omega) (by omega) (by omega)
      have b2 := h.2.2.1 g g0 (by omega)
      omega
  intro f f0 f1
  exact key (fr - 1 - f).toNat f f0 f1 (by omega)
theorem er_less {sa ea ln sa2 ea2 ln2 sm wt : Int → Int} {ev a b ni ns wa ni2 ns2 wa2 K : Int} (hw : pw_ sa ea ln ev) (h : er_ sa ea ln ev a b sa2 ea2 ln2) (hwt : ∀ j : Int, 0 ≤ j → j < 600 → 0 ≤ wt j) (hc : ct_ sa sm wt ni ns wa K) (hc2 : ct_ sa2 sm wt ni2 ns2 wa2 K) : ni2 ≤ ni ∧ wa2 ≤ wa := by
  have hm := (er_mv (c := 0) hw h).2
  have a1 := sg_mono (g := c1_ sa2) (h := c1_ sa) 600 (fun j x y => by
    unfold c1_
    by_cases q : sa2 j = -1
    · rw [if_pos q]
      by_cases r : sa j = -1
      · rw [if_pos r]; omega
      · rw [if_neg r]; omega
    · rw [if_neg q, if_neg (hm j x (by omega) q).1]; omega)
  have a2 := sg_mono (g := cw_ sa2 wt) (h := cw_ sa wt) 600 (fun j x y => by
    unfold cw_
    have := hwt j x (by omega)
    by_cases q : sa2 j = -1
    · rw [if_pos q]
      by_cases r : sa j = -1
      · rw [if_pos r]; omega
      · rw [if_neg r]; omega
    · rw [if_neg q, if_neg (hm j x (by omega) q).1]; omega)
  obtain ⟨c1, c2, c3⟩ := hc
  obtain ⟨d1, d2, d3⟩ := hc2
  omega
theorem er_se {sa ea ln sa2 ea2 ln2 sm : Int → Int} {ev a b : Int} (hw : pw_ sa ea ln ev) (h : er_ sa ea ln ev a b sa2 ea2 ln2) (hse : ∀ j : Int, 0 ≤ j → j < 600 → sa j ≠ -1 → sm j = 1 → ea j ≠ -1) : ∀ j : Int, 0 ≤ j → j < 600 → sa2 j ≠ -1 → sm j = 1 → ea2 j ≠ -1 := fun j x y n1 n2 => by
  obtain ⟨p1, p2, p3, p4, -⟩ := (er_mv (c := 0) hw h).2 j x y n1
  exact (p4 (hse j x y p1 n2)).2
theorem mt_cg {mt sa sa' : Int → Int} (h : mt_ mt sa) (he : ∀ j : Int, 0 ≤ j → j < 600 → sa j = sa' j) : mt_ mt sa' := fun j x y => by
  rw [← he j x y]; exact h j x y
theorem op_done {ky wt sa ea sm ln fi fk fo op : Int → Int} {ni ns ev cu wa fr oo : Int} {mt ml mf mx mi mg : Int → Int} {K th n z w : Int} {u : SX_} {v : SM_} (h : cp_ ky wt sa ea sm ln fi fk fo op ni ns ev cu wa fr oo mt ml mf mx mi K n) (hn : n < 512) (hx : (z = -1 ∧ u = (ky, wt, sa, ea, sm, ln, fi, fk, fo, op, ni, ns, ev, cu, wa, fr, oo) ∧ (fr = 1 ∨ fo (fr - 1) < oo)) ∨ (1 < fr ∧ oo ≤ fo (fr - 1) ∧ z = fi (fr - 1) ∧ ((fk (fr - 1) = 1 ∧ ∃ (sa2 ea2 ln2 : Int → Int) (ni2 ns2 wa2 : Int), er_ sa ea ln ev cu (ea (fi (fr - 1))) sa2 ea2 ln2 ∧ ct_ sa2 sm wt ni2 ns2 wa2 K ∧ u = (ky, wt, sa2, ea2, sm, ln2, fi, fk, fo, op, ni2, ns2, rz_ (gp_ ln cu (ea (fi (fr - 1)))) ev, ea2 (fi (fr - 1)) + 1, wa2, fr - 1, oo)) ∨ (fk (fr - 1) ≠ 1 ∧ u = (ky, wt, sa, ea, sm, ln, fi, fk, fo, op, ni, ns, ev, ea (fi (fr - 1)) + 1, wa, fr - 1, oo))))) (hm : (w = -1 ∧ v = (mt, ky, wt, sm, ml, mf, mx, op, mi, mg, 0, ni, K, ev, cu, fr, oo) ∧ (fr = 1 ∨ (0 < oo ∧ mi (oo - 1) = fr - 1))) ∨ (1 < fr ∧ (oo ≤ 0 ∨ mi (oo - 1) ≠ fr - 1) ∧ w = mf (fr - 1) ∧ ((mx (fr - 1) = 0 ∧ ∃ (ml2 mg2 mt2 : Int → Int) (mn2 : Int), er_ sa ea ml ev cu (lm_ mf ea ev fr) (es_ sa ml cu (lm_ mf ea ev fr)) (ee_ ea ml cu (lm_ mf ea ev fr)) ml2 ∧ mt_ mt2 (es_ sa ml cu (lm_ mf ea ev fr)) ∧ mn2 = sg_ mt2 600 ∧ v = (mt2, ky, wt, sm, ml2, mf, mx, op, mi, mg2, 0, mn2, K, rz_ (gp_ ml cu (lm_ mf ea ev fr)) ev, ee_ ea ml cu (lm_ mf ea ev fr) (mf (fr - 1)) + 1, fr - 1, oo)) ∨ (mx (fr - 1) = 1 ∧ v = (mt, ky, wt, sm, ml, mf, mx, op, mi, mg, 0, ni, K, ev, ea (mf (fr - 1)) + 1, fr - 1, oo))))) : z = w ∧ cc_ (n + 1) u v := by
  have hu := cp_up h
  obtain ⟨hI, hmt, hml, hfm, hmi, hwt, hev, hoo, hni⟩ := id h
  obtain ⟨hw, hnv, hct, ⟨hf1, hf2, hi0, hk0, ho0⟩, hkd, hfo, hfmo, ⟨hc0, hc3, hev2, ho1, ho2⟩, hsm, hky, hwt2, ⟨hK0, hwa⟩, hse⟩ := id hI
  have hlast := (hfm (fr - 1) (by omega) (by omega)).2
  have hlf := (hfm (fr - 1) (by omega) (by omega)).1
  have hop := cp_open h
  have hlm : lm_ mf ea ev fr = lm_ fi ea ev fr := cp_lm hlf
  have hxf := ix_f hI
  obtain ⟨g1, g2, g3, g4, g5, g6, g7, g8, g9, g10, g11⟩ := hxf
  have hmi2 : oo ≤ fo (fr - 1) → 1 < fr → ∀ t : Int, 0 ≤ t → t < oo → 0 ≤ mi t ∧ mi t < fr - 1 ∧ fo (mi t) ≤ t ∧ (mi t + 1 < fr - 1 → t < fo (mi t + 1)) := fun q r t t0 t1 => by
    obtain ⟨m1, m2, m3, m4⟩ := hmi t t0 t1
    have hne : mi t ≠ fr - 1 := fun s => by rw [s] at m3; omega
    exact ⟨m1, by omega, m3, fun s => m4 (by omega)⟩
  rcases hx with ⟨e, rfl, hx⟩ | ⟨z0, z1, z2, hx⟩
  · rcases hm with ⟨e', rfl, hm⟩ | ⟨y0, y1, y2, hm⟩
    · exact ⟨by omega, _, _, _, _, _, _, _, _, _, _, _, _, _, _, _, _, _, _, _, _, _, _, _, _, _, rfl, rfl, hu⟩
    · exfalso
      rcases hx with hx | hx
      · omega
      · have := hop.mp hx; omega
  · have hfr : 1 < fr := z0
    have hlm2 : lm_ fi ea ev fr = ea (fi (fr - 1)) := by unfold lm_; rw [if_neg (by omega)]
    obtain ⟨p1, p2, p3, p4⟩ := hnv.2.1 (fr - 1) (by omega) (by omega)
    have p5 := hnv.2.2.2.1 hfr
    have p6 := g11 hfr
    rcases hm with ⟨e', rfl, hm⟩ | ⟨y0, y1, y2, hm⟩
    · exfalso
      rcases hm with hm | hm
      · omega
      · have := hop.mpr hm; omega
    · refine ⟨by rw [z2, y2, hlf], ?_⟩
      rcases hx with ⟨x0, sa2, ea2, ln2, ni2, ns2, wa2, her, hct2, rfl⟩ | ⟨x0, rfl⟩
      · rcases hm with ⟨m0, ml2, mg2, mt2, mn2, her', hmt2, hmn, rfl⟩ | ⟨m0, rfl⟩
        · rw [hlm, hlm2] at her' hmt2
          obtain ⟨s1, s2⟩ := er_same hw hml hc0 (show ea (fi (fr - 1)) ≤ ev by omega) her her'
          have hmt3 := mt_cg hmt2 (fun j x y => (s1 j x y).1)
          have hni2 : mn2 = ni2 := by rw [hmn, mt_sg hmt3]; exact hct2.1.symm
          have hst := er_stay hw her hc0 (show ea (fi (fr - 1)) ≤ ev by omega) p1 p2 p3 (Or.inl p5.1) (Or.inr (Int.le_refl _))
          have hee := (s1 (fi (fr - 1)) p1 p2).2 hst.2.1
          have hrz := rz_cg hml hc0 (show ea (fi (fr - 1)) ≤ ev by omega) (Int.le_refl ev)
          have hpw2 := er_pw hw her
          have hls := er_less hw her hwt2 hct hct2
          have hr0 := rz_nn (gp_ ln cu (ea (fi (fr - 1)))) hw.1.1
          have hnv2 := nv_pop (er_nv hw hnv hc0 (show ea (fi (fr - 1)) ≤ ev by omega) (nv_fl hnv) her) hfr z1
          have hen := hpw2.2.2.1 (fi (fr - 1)) p1 p2 hst.2.1
          have hsn := hpw2.2.1 (fi (fr - 1)) p1 p2
          have he2 := hst.2.2.2.1 p4
          have hr1 := rz_nn (gp_ ln cu (ea (fi (fr - 1)))) (show 0 ≤ ea (fi (fr - 1)) by omega)
          refine ⟨_, _, _, _, _, _, _, _, _, _, _, _, _, _, _, _, _, mt2, ml2, mf, mx, mi, mg2, 0, K, rfl, ?_, ?_⟩
          · rw [hlm, hlm2, hlf, hrz, hee, hni2]
          · exact ⟨⟨hpw2, hnv2, hct2, ⟨by omega, by omega, hi0, hk0, ho0⟩, fun f f0 f1 => hkd f f0 (by omega), fun f f0 f1 => hfo f f0 (by omega), fun f f0 f1 => hfmo f f0 (by omega), ⟨by omega, by omega, by omega, ho1, ho2⟩, hsm, hky, hwt2, ⟨hK0, by omega⟩, er_se hw her hse⟩, hmt3, s2, fun f f0 f1 => hfm f f0 (by omega), hmi2 z1 hfr, hwt, by omega, by omega, by omega⟩
        · exfalso; omega
      · rcases hm with ⟨m0, ml2, mg2, mt2, mn2, her', hmt2, hmn, rfl⟩ | ⟨m0, rfl⟩
        · exfalso; omega
        · refine ⟨_, _, _, _, _, _, _, _, _, _, _, _, _, _, _, _, _, mt, ml, mf, mx, mi, mg, 0, K, rfl, ?_, ?_⟩
          · rw [hlf]
          · exact ⟨⟨hw, nv_pop hnv hfr z1, hct, ⟨by omega, by omega, hi0, hk0, ho0⟩, fun f f0 f1 => hkd f f0 (by omega), fun f f0 f1 => hfo f f0 (by omega), fun f f0 f1 => hfmo f f0 (by omega), ⟨by omega, by omega, by omega, ho1, ho2⟩, hsm, hky, hwt2, ⟨hK0, by omega⟩, hse⟩, hmt, hml, fun f f0 f1 => hfm f f0 (by omega), hmi2 z1 hfr, hwt, by omega, by omega, by omega⟩
theorem op_take {key : Int} {ky wt sa ea sm ln fi fk fo op : Int → Int} {ni ns ev cu wa fr oo : Int} {mt ml mf mx mi mg : Int → Int} {K th n z w : Int} {u : SX_} {v : SM_} (h : cp_ ky wt sa ea sm ln fi fk fo op ni ns ev cu wa fr oo mt ml mf mx mi K n) (hn : n < 512) (hx : (z = -1 ∧ u = (ky, wt, sa, ea, sm, ln, fi, fk, fo, op, ni, ns, ev, cu, wa, fr, oo) ∧ (fk (fr - 1) ≠ 1 ∨ fr = 64 ∨ ∀ k : Int, cu ≤ k → k < (lm_ fi ea ev fr) → ¬ (fun k => ln k % 2 = 0 ∧ ky (ln k / 2) = key ∧ sm (ln k / 2) = 0 ∧ ea (ln k / 2) ≠ -1 ∧ ea (ln k / 2) < (lm_ fi ea ev fr)) k)) ∨ (fk (fr - 1) = 1 ∧ fr < 64 ∧ ∃ k : Int, cu ≤ k ∧ k < (lm_ fi ea ev fr) ∧ (fun k => ln k % 2 = 0 ∧ ky (ln k / 2) = key ∧ sm (ln k / 2) = 0 ∧ ea (ln k / 2) ≠ -1 ∧ ea (ln k / 2) < (lm_ fi ea ev fr)) k ∧ (∀ j : Int, cu ≤ j → j < k → ¬ (fun k => ln k % 2 = 0 ∧ ky (ln k / 2) = key ∧ sm (ln k / 2) = 0 ∧ ea (ln k / 2) ≠ -1 ∧ ea (ln k / 2) < (lm_ fi ea ev fr)) j) ∧ z = ln k / 2 ∧ ∃ (sa2 ea2 ln2 : Int → Int) (ni2 ns2 wa2 : Int), er_ sa ea ln ev cu (sa (ln k / 2)) sa2 ea2 ln2 ∧ ct_ sa2 sm wt ni2 ns2 wa2 K ∧ u = (ky, wt, sa2, ea2, sm, ln2, up_ fi fr (ln k / 2), up_ fk fr 2, up_ fo fr oo, op, ni2, ns2, rz_ (gp_ ln cu (sa (ln k / 2))) ev, sa2 (ln k / 2) + 1, wa2, fr + 1, oo))) (hm : (w = -1 ∧ v = (mt, ky, wt, sm, ml, mf, mx, op, mi, mg, 0, ni, K, ev, cu, fr, oo) ∧ (fr = 1 ∨ mx (fr - 1) = 1 ∨ fr = 64 ∨ ∀ k : Int, cu ≤ k → k < (lm_ mf ea ev fr) → ¬ (fun k => ml k % 2 = 0 ∧ ky (ml k / 2) = key ∧ sm (ml k / 2) = 0 ∧ ea (ml k / 2) ≠ -1 ∧ cu ≤ ea (ml k / 2) ∧ ea (ml k / 2) < (lm_ mf ea ev fr)) k)) ∨ (fr ≠ 1 ∧ mx (fr - 1) = 0 ∧ fr < 64 ∧ ∃ k : Int, cu ≤ k ∧ k < (lm_ mf ea ev fr) ∧ (fun k => ml k % 2 = 0 ∧ ky (ml k / 2) = key ∧ sm (ml k / 2) = 0 ∧ ea (ml k / 2) ≠ -1 ∧ cu ≤ ea (ml k / 2) ∧ ea (ml k / 2) < (lm_ mf ea ev fr)) k ∧ (∀ j : Int, cu ≤ j → j < k → ¬ (fun k => ml k % 2 = 0 ∧ ky (ml k / 2) = key ∧ sm (ml k / 2) = 0 ∧ ea (ml k / 2) ≠ -1 ∧ cu ≤ ea (ml k / 2) ∧ ea (ml k / 2) < (lm_ mf ea ev fr)) j) ∧ w = ml k / 2 ∧ ∃ (ml2 mg2 mt2 : Int → Int) (mn2 : Int), er_ sa ea ml ev cu k (es_ sa ml cu k) (ee_ ea ml cu k) ml2 ∧ mt_ mt2 (es_ sa ml cu k) ∧ mn2 = sg_ mt2 600 ∧ v = (mt2, ky, wt, sm, ml2, up_ mf fr (ml k / 2), up_ mx fr 1, op, mi, mg2, 0, mn2, K, rz_ (gp_ ml cu k) ev, es_ sa ml cu k (ml k / 2) + 1, fr + 1, oo))) : z = w ∧ cc_ (n + 1) u v := by
  have hu := cp_up h
  obtain ⟨hI, hmt, hml, hfm, hmi, hwt, hev, hoo, hni⟩ := id h
  obtain ⟨hw, hnv, hct, ⟨hf1, hf2, hi0, hk0, ho0⟩, hkd, hfo, hfmo, ⟨hc0, hc3, hev2, ho1, ho2⟩, hsm, hky, hwt2, ⟨hK0, hwa⟩, hse⟩ := id hI
  have hlast := (hfm (fr - 1) (by omega) (by omega)).2
  have hlf := (hfm (fr - 1) (by omega) (by omega)).1
  have hop := cp_open h
  have hlm : lm_ mf ea ev fr = lm_ fi ea ev fr := cp_lm hlf
  have hxf := ix_f hI
  obtain ⟨g1, g2, g3, g4, g5, g6, g7, g8, g9, g10, g11⟩ := hxf
  rw [hlm] at hm
  have hps : ∀ k : Int, cu ≤ k → k < lm_ fi ea ev fr → ml k = ln k := fun k a b => hml k (by omega) (by omega)
  have hpe : ∀ k : Int, cu ≤ k → k < lm_ fi ea ev fr → ln k % 2 = 0 → ea (ln k / 2) ≠ -1 → cu ≤ ea (ln k / 2) := fun k a b c d => by
    obtain ⟨d1, d2, d3, d4⟩ := hw.2.2.2 k (by omega) (by omega)
    have d5 := d3 c
    have d6 := hw.2.2.1 (ln k / 2) (by omega) (by omega) (by omega)
    omega
  rcases hx with ⟨e, rfl, hx⟩ | ⟨z0, z1, k, k0, k1, k2, k3, k4, sa2, ea2, ln2, ni2, ns2, wa2, her, hct2, rfl⟩
  · rcases hm with ⟨e', rfl, hm⟩ | ⟨y0, y1, y2, j, j0, j1, j2, j3, j4, ml2, mg2, mt2, mn2, her', hmt2, hmn, rfl⟩
    · exact ⟨by omega, _, _, _, _, _, _, _, _, _, _, _, _, _, _, _, _, _, _, _, _, _, _, _, _, _, rfl, rfl, hu⟩
    · exfalso
      rcases hx with hx | hx | hx
      · omega
      · omega
      · rw [hps j j0 j1] at j2
        exact hx j j0 j1 ⟨j2.1, j2.2.1, j2.2.2.1, j2.2.2.2.1, j2.2.2.2.2.2⟩
  · have hbk : ln k % 2 = 0 ∧ ky (ln k / 2) = key ∧ sm (ln k / 2) = 0 ∧ ea (ln k / 2) ≠ -1 ∧ ea (ln k / 2) < lm_ fi ea ev fr := k2
    have hmk : ml k % 2 = 0 ∧ ky (ml k / 2) = key ∧ sm (ml k / 2) = 0 ∧ ea (ml k / 2) ≠ -1 ∧ cu ≤ ea (ml k / 2) ∧ ea (ml k / 2) < lm_ fi ea ev fr := by
      rw [hps k k0 k1]
      exact ⟨hbk.1, hbk.2.1, hbk.2.2.1, hbk.2.2.2.1, hpe k k0 k1 hbk.1 hbk.2.2.2.1, hbk.2.2.2.2⟩
    rcases hm with ⟨e', rfl, hm⟩ | ⟨y0, y1, y2, j, j0, j1, j2, j3, j4, ml2, mg2, mt2, mn2, her', hmt2, hmn, rfl⟩
    · exfalso
      rcases hm with hm | hm | hm | hm
      · omega
      · omega
      · omega
      · exact hm k k0 k1 hmk
    · have hkj : k = j := by
        rcases Int.lt_trichotomy k j with q | q | q
        · exact absurd hmk (j3 k k0 q)
        · exact q
        · rw [hps j j0 j1] at j2
          exact absurd ⟨j2.1, j2.2.1, j2.2.2.1, j2.2.2.2.1, j2.2.2.2.2.2⟩ (k3 j j0 q)
      subst hkj
      rw [hps k k0 k1] at j4
      have hfr : 1 < fr := by omega
      have hlm2 : lm_ fi ea ev fr = ea (fi (fr - 1)) := by unfold lm_; rw [if_neg (by omega)]
      obtain ⟨p1, p2, p3, p4⟩ := hnv.2.1 (fr - 1) (by omega) (by omega)
      have p5 := hnv.2.2.2.1 hfr
      have p6 := g11 hfr
      refine ⟨by omega, ?_⟩
      obtain ⟨d1, d2, d3, d4⟩ := hw.2.2.2 k (by omega) (by omega)
      have d5 := d3 hbk.1
      rw [d5] at her ⊢
      obtain ⟨s1, s2⟩ := er_same hw hml hc0 (show k ≤ ev by omega) her her'
      have hmt3 := mt_cg hmt2 (fun j x y => (s1 j x y).1)
      have hni2 : mn2 = ni2 := by rw [hmn, mt_sg hmt3]; exact hct2.1.symm
      have hrz := rz_cg hml hc0 (show k ≤ ev by omega) (Int.le_refl ev)
      have i0 : 0 ≤ ln k / 2 := by omega
      have i1 : ln k / 2 < 600 := by omega
      have hes := (s1 (ln k / 2) i0 i1).1
      refine ⟨_, _, _, _, _, _, _, _, _, _, _, _, _, _, _, _, _, mt2, ml2, up_ mf fr (ln k / 2), up_ mx fr 1, mi, mg2, 0, K, rfl, ?_, ?_⟩
      · rw [hps k k0 k1, hrz, hes, hni2]
      have hik := hbk.2.2.2
      generalize hi : ln k / 2 = i at d5 i0 i1 hik ⊢
      have hs : sa i ≠ -1 := by omega
      have w3 := hw.2.2.1 i i0 i1 hs
      have hst := er_stay hw her hc0 (show k ≤ ev by omega) i0 i1 hs (Or.inr (by omega)) (Or.inr (by omega))
      have hstl := er_stay hw her hc0 (show k ≤ ev by omega) p1 p2 p3 (Or.inl p5.1) (Or.inr (by omega))
      have hk9 : ¬ gp_ ln cu k k := by
        show ¬ fg_ ln cu k (ln k / 2)
        rw [hi]; exact hst.2.2.2.2
      have hrk : rz_ (gp_ ln cu k) k = rz_ (gp_ ln cu k) cu := by
        have t := rz_const (g := gp_ ln cu k) hc0 (k - cu).toNat (fun p x y => ⟨p, x, by omega, rfl⟩)
        rw [show cu + ((k - cu).toNat : Int) = k by omega] at t
        exact t
      have hsi : sa2 i = rz_ (gp_ ln cu k) k := by rw [hst.1, d5]
      have hpw2 := er_pw hw her
      have hls := er_less hw her hwt2 hct hct2
      have hr0 := rz_nn (gp_ ln cu k) hw.1.1
      have hnv1 := er_nv hw hnv hc0 (show k ≤ ev by omega) (fun f f0 f1 => by have := nv_fl hnv f f0 f1; omega) her
      have hr2 := rz_nn (gp_ ln cu k) (show 0 ≤ k by omega)
      have hr3 := rz_nn (gp_ ln cu k) hc0
      have hei := hst.2.2.2.1 hik.1
      have hr4 := rz_nn (gp_ ln cu k) (show 0 ≤ ea i by omega)
      have hsn := hpw2.2.1 i i0 i1
      have hltl := (rz_lt (g := gp_ ln cu k) (a := k) (b := ea (fi (fr - 1))) (by omega) (by omega) hk9).mpr (by omega)
      have hel := hstl.2.2.2.1 p4
      refine ⟨⟨hpw2, ?_, hct2, ⟨by omega, by omega, by rw [up_n (by omega)]; exact hi0, by rw [up_n (by omega)]; exact hk0, by rw [up_n (by omega)]; exact ho0⟩, fun f f0 f1 => ?_, fun f f0 f1 => ?_, fun f f0 f1 => ?_, ⟨by omega, by omega, by omega, ho1, ho2⟩, hsm, hky, hwt2, ⟨hK0, by omega⟩, er_se hw her hse⟩, hmt3, s2, fun f f0 f1 => ?_, fun t t0 t1 => ?_, hwt, by omega, by omega, by omega⟩
      · exact nv_push hpw2 hnv1 hf1 (fun _ => g3) i0 i1 hst.2.1 (by rw [hei]; omega) (by omega) (fun _ => by omega) (fun _ => by omega) (fun f q => ⟨up_n (by omega), up_n (by omega)⟩) (up_s _ _ _) (up_s _ _ _) (by omega)
      · by_cases hf : f = fr
        · rw [hf, up_s]; exact Or.inr rfl
        · rw [up_n hf]; exact hkd f f0 (by omega)
      · by_cases hf : f = fr
        · rw [hf, up_s]; omega
        · rw [up_n hf]; exact hfo f f0 (by omega)
      · rw [up_n (show f ≠ fr by omega)]
        by_cases hf : f + 1 = fr
        · rw [hf, up_s]; exact (hfo f f0 (by omega)).2
        · rw [up_n hf]; exact hfmo f f0 (by omega)
      · by_cases hf : f = fr
        · rw [hf, up_s, up_s, up_s, up_s]; exact ⟨rfl, Or.inl ⟨rfl, rfl⟩⟩
        · rw [up_n hf, up_n hf, up_n hf, up_n hf]; exact hfm f f0 (by omega)
      · obtain ⟨m1, m2, m3, m4⟩ := hmi t t0 t1
        refine ⟨m1, by omega, by rw [up_n (by omega)]; exact m3, fun q => ?_⟩
        by_cases hf : mi t + 1 = fr
        · rw [hf, up_s]; exact t1
        · rw [up_n hf]; exact m4 (by omega)
end
section
theorem sg_z {g : Int → Int} (n : Nat) (h : ∀ j : Int, 0 ≤ j → j < n → g j = 0) : sg_ g n = 0 := by
  have a := sg_nn (g := g) n (fun j x y => by rw [h j x y]; omega)
  have b := sg_le (g := g) (c := 0) n (fun j x y => by rw [h j x y]; omega)
  rw [Int.mul_zero] at b
  omega
/-- a state with no intervals and the first frame alone -/
theorem cp_empty {ky wt sa ea sm ln fi fk fo op mt ml mf mx mi : Int → Int} {n : Int} (hsa : ∀ j : Int, 0 ≤ j → j < 600 → sa j = -1) (hmt : ∀ j : Int, 0 ≤ j → j < 600 → mt j = 0) (hfi : fi 0 = -1) (hfk : fk 0 = 0) (hfo : fo 0 = 0) (hmf : mf 0 = -1) (hmx : mx 0 = 0) (hn : 0 ≤ n)
    (hsm : ∀ j : Int, 0 ≤ j → j < 600 → sm j = 0 ∨ sm j = 1) (hky : ∀ j : Int, 0 ≤ j → j < 600 → zr_ (ky j)) (hwt : ∀ j : Int, 0 ≤ j → j < 600 → 0 ≤ wt j ∧ wt j ≤ 1000000000) : cp_ ky wt sa ea sm ln fi fk fo op 0 0 0 0 0 1 0 mt ml mf mx mi 0 n := by
  have z1 : sg_ (c1_ sa) 600 = 0 := sg_z 600 (fun j x y => by unfold c1_; rw [if_pos (hsa j x (by omega))])
  have z2 : ∀ f : Int → Int, sg_ (cw_ sa f) 600 = 0 := fun f => sg_z 600 (fun j x y => by unfold cw_; rw [if_pos (hsa j x (by omega))])
  refine ⟨⟨⟨by omega, fun j x y => Or.inl (hsa j x y), fun j x y n => absurd (hsa j x y) n, fun k x y => by omega⟩, ⟨fun a b a0 a1 b0 b1 s1 => absurd (hsa a a0 a1) s1, fun f f0 f1 => by omega, fun f f0 f1 => by omega, fun f1 => by omega, fun t t0 t1 => by omega, fun t t' t0 t1 t2 => by omega, fun f t f0 f1 t0 t1 t2 => by omega⟩, ⟨z1.symm, (z2 sm).symm, by rw [z2 wt]; omega⟩, ⟨by omega, by omega, hfi, hfk, hfo⟩, fun f f0 f1 => by omega, fun f f0 f1 => ?_, fun f f0 f1 => by omega, ⟨by omega, by omega, by omega, by omega, by omega⟩, hsm, hky, fun j x y => (hwt j x y).1, ⟨by omega, by omega⟩, fun j x y n1 => absurd (hsa j x y) n1⟩, fun j x y => Or.inr ⟨hmt j x y, hsa j x y⟩, fun k x y => by omega, fun f f0 f1 => ?_, fun t t0 t1 => by omega, fun j x y => (hwt j x y).2, hn, hn, hn⟩
  · rw [show f = 0 by omega, hfo]; omega
  · rw [show f = 0 by omega, hfi, hfk, hmf, hmx]; exact ⟨rfl, Or.inr ⟨by omega, rfl⟩⟩
theorem op_wipe {ky wt sa ea sm ln fi fk fo op : Int → Int} {ni ns ev cu wa fr oo : Int} {mt ml mf mx mi mg : Int → Int} {K n : Int} {u : SX_} {v : SM_} (h : cp_ ky wt sa ea sm ln fi fk fo op ni ns ev cu wa fr oo mt ml mf mx mi K n) (hn : 0 ≤ n) (hx : ∃ sa1 : Int → Int, (∀ j : Int, 0 ≤ j → j < 600 → sa1 j = -1) ∧ u = (ky, wt, sa1, ea, sm, ln, up_ fi 0 (-1), up_ fk 0 0, up_ fo 0 0, op, 0, 0, 0, 0, 0, 1, 0)) (hm : ∃ mt1 : Int → Int, (∀ j : Int, 0 ≤ j → j < 600 → mt1 j = 0) ∧ v = (mt1, ky, wt, sm, ml, mf, mx, op, mi, mg, 0, 0, 0, 0, 0, 1, 0)) : cc_ (n + 1) u v := by
  obtain ⟨hI, hmt, hml, hfm, hmi, hwt, hev, hoo, hni⟩ := id h
  obtain ⟨hw, hnv, hct, ⟨hf1, hf2, hi0, hk0, ho0⟩, hkd, hfo, hfmo, ⟨hc0, hc3, hev2, ho1, ho2⟩, hsm, hky, hwt2, ⟨hK0, hwa⟩, hse⟩ := id hI
  obtain ⟨sa1, hs, rfl⟩ := hx
  obtain ⟨mt1, ht, rfl⟩ := hm
  have h0 := hfm 0 (by omega) (by omega)
  refine ⟨_, _, _, _, _, _, _, _, _, _, _, _, _, _, _, _, _, _, _, _, _, _, _, _, _, rfl, rfl, ?_⟩
  exact cp_empty hs ht (up_s _ _ _) (up_s _ _ _) (up_s _ _ _) (by rw [h0.1]; exact hi0) (by omega) (by omega) hsm hky (fun j x y => ⟨hwt2 j x y, hwt j x y⟩)
theorem fl_eq {P P' : Int → Prop} {v v' : Int → Int} {a b z w : Int} (hP : ∀ k : Int, a ≤ k → k < b → (P k ↔ P' k)) (hv : ∀ k : Int, a ≤ k → k < b → v k = v' k) (h : fl_ P v a b z) (h' : fl_ P' v' a b w) : z = w := by
  rcases h with ⟨e, h⟩ | ⟨k, k0, k1, k2, k3, k4⟩
  · rcases h' with ⟨e', h'⟩ | ⟨j, j0, j1, j2, j3, j4⟩
    · omega
    · exact absurd ((hP j j0 j1).mpr j2) (h j j0 j1)
  · rcases h' with ⟨e', h'⟩ | ⟨j, j0, j1, j2, j3, j4⟩
    · exact absurd ((hP k k0 k1).mp k2) (h' k k0 k1)
    · rcases Int.lt_trichotomy k j with q | q | q
      · exact absurd ((hP j j0 j1).mpr j2) (k4 j q j1)
      · subst q; rw [k3, j3]; exact hv k k0 k1
      · exact absurd ((hP k k0 k1).mp k2) (j4 k q k1)
/-- what the class answers to of(i, wh), where it answers -/
def xo_ (ky wt sa ea sm ln : Int → Int) (ev i wh z : Int) : Prop :=
  (wh = 0 → z = ky i) ∧ (wh = 1 → z = wt i) ∧ (wh = 2 → (ea i = -1 → z = 0) ∧ (ea i ≠ -1 → z = 1 + sm i)) ∧ (wh = 3 → z = sa i) ∧ (wh = 4 → z = ea i) ∧ (wh = 5 → fl_ (fun k => ln k % 2 = 0 ∧ (ea (ln k / 2) = -1 ∨ sa i < ea (ln k / 2))) (fun k => ln k / 2) 0 (sa i) z) ∧ (wh = 6 → z = st_ (we_ ln wt) (sa i) (ut_ ea ev i - sa i).toNat)
theorem of_cases {wh : Int} (h0 : 0 ≤ wh) (h1 : wh ≤ 6) : wh = 0 ∨ wh = 1 ∨ wh = 2 ∨ wh = 3 ∨ wh = 4 ∨ wh = 5 ∨ wh = 6 := by omega
theorem op_of {i wh : Int} {ky wt sa ea sm ln fi fk fo op : Int → Int} {ni ns ev cu wa fr oo : Int} {mt ml mf mx mi mg : Int → Int} {K th n z w : Int} {u : SX_} {v : SM_} (h : cp_ ky wt sa ea sm ln fi fk fo op ni ns ev cu wa fr oo mt ml mf mx mi K n) (hn : n < 512) (hi : 0 ≤ i ∧ i < 600 ∧ sa i ≠ -1 ∧ 0 ≤ wh ∧ wh ≤ 6) (hx : xo_ ky wt sa ea sm ln ev i wh z) (hm : ((i < 0 ∨ 600 ≤ i ∨ sa i = -1 ∨ wh < 0 ∨ 6 < wh) ∧ w = 0 ∧ v = (mt, ky, wt, sm, ml, mf, mx, op, mi, mg, 1, ni, K, ev, cu, fr, oo)) ∨ (0 ≤ i ∧ i < 600 ∧ sa i ≠ -1 ∧ 0 ≤ wh ∧ wh ≤ 6 ∧ v = (mt, ky, wt, sm, ml, mf, mx, op, mi, mg, 0, ni, K, ev, cu, fr, oo) ∧ (wh = 0 → w = ky i) ∧ (wh = 1 → w = wt i) ∧ (wh = 2 → (ea i = -1 → w = 0) ∧ (ea i ≠ -1 → w = 1 + sm i)) ∧ (wh = 3 → w = sa i) ∧ (wh = 4 → w = ea i) ∧ (wh = 5 → fl_ (fun k => ml k % 2 = 0 ∧ sa i < ut_ ea ev (ml k / 2)) (fun k => ml k / 2) 0 (sa i) w) ∧ (wh = 6 → w = wt i + st_ (we_ ml wt) (sa i + 1) (ut_ ea ev i - (sa i + 1)).toNat))) : z = w ∧ v = (mt, ky, wt, sm, ml, mf, mx, op, mi, mg, 0, ni, K, ev, cu, fr, oo) := by
  obtain ⟨i0, i1, i2, i3, i4⟩ := hi
  obtain ⟨hI, hmt, hml, hfm, hmi, hwt, hev, hoo, hni⟩ := id h
  have hw := hI.1
  have hur := ut_rng hw i0 i1 i2
  rcases hm with ⟨m0, m1, rfl⟩ | ⟨-, -, -, -, -, rfl, m0, m1, m2, m3, m4, m5, m6⟩
  · exfalso; omega
  obtain ⟨x0, x1, x2, x3, x4, x5, x6⟩ := hx
  refine ⟨?_, rfl⟩
  rcases of_cases i3 i4 with q | q | q | q | q | q | q
  · rw [x0 q, m0 q]
  · rw [x1 q, m1 q]
  · by_cases he : ea i = -1
    · rw [(x2 q).1 he, (m2 q).1 he]
    · rw [(x2 q).2 he, (m2 q).2 he]
  · rw [x3 q, m3 q]
  · rw [x4 q, m4 q]
  · refine fl_eq (fun k k0 k1 => ?_) (fun k k0 k1 => ?_) (x5 q) (m5 q)
    · have e := hml k k0 (by clear x0 x1 x2 x3 x4 x5 x6 m0 m1 m2 m3 m4 m5 m6; omega)
      show (ln k % 2 = 0 ∧ (ea (ln k / 2) = -1 ∨ sa i < ea (ln k / 2))) ↔ (ml k % 2 = 0 ∧ sa i < ut_ ea ev (ml k / 2))
      rw [e]
      unfold ut_
      by_cases hq : ea (ln k / 2) = -1
      · rw [if_pos hq]
        exact ⟨fun t => ⟨t.1, by clear x0 x1 x2 x3 x4 x5 x6 m0 m1 m2 m3 m4 m5 m6; omega⟩, fun t => ⟨t.1, Or.inl hq⟩⟩
      · rw [if_neg hq]
        exact ⟨fun t => ⟨t.1, t.2.resolve_left hq⟩, fun t => ⟨t.1, Or.inr t.2⟩⟩
    · show ln k / 2 = ml k / 2
      rw [hml k k0 (by clear x0 x1 x2 x3 x4 x5 x6 m0 m1 m2 m3 m4 m5 m6; omega)]
  · rw [x6 q, m6 q]
    clear x0 x1 x2 x3 x4 x5 x6 m0 m1 m2 m3 m4 m5 m6
    have w2 := hw.2.1 i i0 i1
    rw [show (ut_ ea ev i - sa i).toNat = (ut_ ea ev i - (sa i + 1)).toNat + 1 by omega, st_first]
    have e1 : we_ ln wt (sa i) = wt i := by
      have e : ln (sa i) = 2 * i := by omega
      unfold we_
      rw [e, if_pos (by omega), show 2 * i / 2 = i by omega]
    rw [e1]
    congr 1
    refine st_congr _ (fun j j0 j1 => ?_)
    unfold we_
    rw [hml j (by omega) (by omega)]
end
