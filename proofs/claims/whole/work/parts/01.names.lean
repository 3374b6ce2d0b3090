/-! ===== BEGIN words of one list among another's, by their places ===== -/
theorem goodIn_r {big : List Cond} (ws : List Cond) (ps : List Nat) (hp : ws = ps.filterMap (fun i => big[i]?)) (h : ws.all goodWord = true) : GoodIn big ws := by
  intro w hw
  have h1 := List.all_eq_true.mp h w hw
  rw [hp] at hw
  obtain ⟨i, -, hi⟩ := List.mem_filterMap.mp hw
  have hm : w ∈ big := by first | exact List.mem_of_getElem? hi | exact List.getElem?_mem hi
  exact ⟨hm, good_of_word h1⟩
theorem goodIn_app {big a b : List Cond} (ha : GoodIn big a) (hb : GoodIn big b) : GoodIn big (a ++ b) := fun w h => (List.mem_append.mp h).elim (ha w) (hb w)
theorem goodIn_ca {big a b : List Cond} {c : Cond} (ha : GoodIn big (c :: a)) (hb : GoodIn big b) : GoodIn big (c :: (a ++ b)) := fun w h => (List.mem_cons.mp h).elim (fun e => ha w (List.mem_cons.mpr (Or.inl e))) (fun h => (List.mem_append.mp h).elim (fun h => ha w (List.mem_cons.mpr (Or.inr h))) (hb w))
theorem goodIn_sub {big ws : List Cond} (hm : ∀ w ∈ ws, w ∈ big) (h : ws.all goodWord = true) : GoodIn big ws := fun w hw => ⟨hm w hw, good_of_word (List.all_eq_true.mp h w hw)⟩
/-! ===== END ===== -/
theorem gi_V {L : List Cond} {own C : String} {idx : Nat} {y : MethodName} {cd : Cond} (hL : GoodIn L L) (h1 : Cond.methodLink own idx y ∈ L) (h2 : Cond.instanceMethod y ∈ L) (h3 : Cond.selects C y y ∈ L) (h4 : Cond.initialized C ∈ L) (h5 : cd ∈ L) : GoodIn L (wsV own idx C y (cd :: L)) := by
  intro w hw
  unfold wsV at hw
  rcases List.mem_append.mp hw with h | h
  · rcases List.mem_cons.mp h with rfl | h
    · exact hL _ h1
    · rcases List.mem_cons.mp h with rfl | h
      · exact hL _ h2
      · rcases List.mem_cons.mp h with rfl | h
        · exact hL _ h3
        · rcases List.mem_cons.mp h with rfl | h
          · exact hL _ h4
          · cases h
  · rcases List.mem_cons.mp h with rfl | h
    · exact hL _ h5
    · exact hL _ h
theorem gi_S {L : List Cond} {own : String} {idx : Nat} {y : MethodName} {cd : Cond} (hL : GoodIn L L) (h1 : Cond.methodLink own idx y ∈ L) (h2 : Cond.static y ∈ L) (h4 : Cond.initialized own ∈ L) (h5 : cd ∈ L) : GoodIn L (wsS own idx y (cd :: L)) := by
  intro w hw
  unfold wsS at hw
  rcases List.mem_append.mp hw with h | h
  · rcases List.mem_cons.mp h with rfl | h
    · exact hL _ h1
    · rcases List.mem_cons.mp h with rfl | h
      · exact hL _ h2
      · rcases List.mem_cons.mp h with rfl | h
        · exact hL _ h4
        · cases h
  · rcases List.mem_cons.mp h with rfl | h
    · exact hL _ h5
    · exact hL _ h
def RX0 : String := "TraceLine"
def TX0 : u_T := fun k => match k with
  | 0 => ("TraceLine", "keys", "[I", true)
  | 1 => ("TraceLine", "weights", "[I", true)
  | 2 => ("TraceLine", "startAt", "[I", true)
  | 3 => ("TraceLine", "endAt", "[I", true)
  | 4 => ("TraceLine", "staleMark", "[Z", true)
  | 5 => ("TraceLine", "intervals", "I", false)
  | 6 => ("TraceLine", "staleOnes", "I", false)
  | 7 => ("TraceLine", "line", "[I", true)
  | 8 => ("TraceLine", "events", "I", false)
  | 9 => ("TraceLine", "cursor", "I", false)
  | 10 => ("TraceLine", "weightInAll", "I", false)
  | 11 => ("TraceLine", "frameInterval", "[I", true)
  | 12 => ("TraceLine", "frameKind", "[I", true)
  | 13 => ("TraceLine", "frameOpenBelow", "[I", true)
  | 14 => ("TraceLine", "frames", "I", false)
  | 15 => ("TraceLine", "open", "[I", true)
  | _ => ("TraceLine", "openOnes", "I", false)
def tyX0 : Nat → FieldType := fun k => match k with
  | 0 => .array .int
  | 1 => .array .int
  | 2 => .array .int
  | 3 => .array .int
  | 4 => .array .boolean
  | 5 => .int
  | 6 => .int
  | 7 => .array .int
  | 8 => .int
  | 9 => .int
  | 10 => .int
  | 11 => .array .int
  | 12 => .array .int
  | 13 => .array .int
  | 14 => .int
  | 15 => .array .int
  | _ => .int
abbrev wsX00 : List Cond := u_ws RX0 TX0 17
theorem nmX0 : ∀ a, a < 17 → ∀ b, b < 17 → a ≠ b → (TX0 a).2.1 ≠ (TX0 b).2.1 := by decide +kernel
theorem tyX0_ok : ∀ k, k < 17 → parseFieldDescriptor (TX0 k).2.2.1 = some (tyX0 k) := by decide +kernel
abbrev cX0_init : ByteArray := prog_1_method_1_code
def yX0_init : MethodName := ⟨RX0, "<init>", "()V"⟩
abbrev cX0_makeEmpty : ByteArray := prog_1_method_15_code
def yX0_makeEmpty : MethodName := ⟨RX0, "makeEmpty", "()V"⟩
abbrev cX0_begin : ByteArray := prog_1_method_2_code
def yX0_begin : MethodName := ⟨RX0, "begin", "(I)I"⟩
abbrev cX0_leastFreeNumber : ByteArray := prog_1_method_18_code
def yX0_leastFreeNumber : MethodName := ⟨RX0, "leastFreeNumber", "()I"⟩
abbrev cX0_lastKind : ByteArray := prog_1_method_32_code
def yX0_lastKind : MethodName := ⟨RX0, "lastKind", "()I"⟩
abbrev cX0_putAtCursor : ByteArray := prog_1_method_24_code
def yX0_putAtCursor : MethodName := ⟨RX0, "putAtCursor", "(I)V"⟩
abbrev cX0_setPlace : ByteArray := prog_1_method_23_code
def yX0_setPlace : MethodName := ⟨RX0, "setPlace", "(II)V"⟩
abbrev cX0_isStart : ByteArray := prog_1_method_22_code
def yX0_isStart : MethodName := ⟨RX0, "isStart", "(I)Z"⟩
abbrev cX0_end : ByteArray := prog_1_method_3_code
def yX0_end : MethodName := ⟨RX0, "end", "()I"⟩
abbrev cX0_lastOpen : ByteArray := prog_1_method_33_code
def yX0_lastOpen : MethodName := ⟨RX0, "lastOpen", "()I"⟩
abbrev cX0_weigh : ByteArray := prog_1_method_4_code
def yX0_weigh : MethodName := ⟨RX0, "weigh", "(I)Z"⟩
abbrev cX0_lastInterval : ByteArray := prog_1_method_31_code
def yX0_lastInterval : MethodName := ⟨RX0, "lastInterval", "()I"⟩
abbrev cX0_stale : ByteArray := prog_1_method_5_code
def yX0_stale : MethodName := ⟨RX0, "stale", "(I)Z"⟩
abbrev cX0_isThere : ByteArray := prog_1_method_16_code
def yX0_isThere : MethodName := ⟨RX0, "isThere", "(I)Z"⟩
abbrev cX0_isEnded : ByteArray := prog_1_method_17_code
def yX0_isEnded : MethodName := ⟨RX0, "isEnded", "(I)Z"⟩
abbrev cX0_resume : ByteArray := prog_1_method_6_code
def yX0_resume : MethodName := ⟨RX0, "resume", "()I"⟩
abbrev cX0_firstStaleAhead : ByteArray := prog_1_method_27_code
def yX0_firstStaleAhead : MethodName := ⟨RX0, "firstStaleAhead", "()I"⟩
abbrev cX0_aheadUpTo : ByteArray := prog_1_method_29_code
def yX0_aheadUpTo : MethodName := ⟨RX0, "aheadUpTo", "()I"⟩
abbrev cX0_putFrame : ByteArray := prog_1_method_34_code
def yX0_putFrame : MethodName := ⟨RX0, "putFrame", "(II)V"⟩
abbrev cX0_take : ByteArray := prog_1_method_7_code
def yX0_take : MethodName := ⟨RX0, "take", "(I)I"⟩
abbrev cX0_firstFreshAhead : ByteArray := prog_1_method_28_code
def yX0_firstFreshAhead : MethodName := ⟨RX0, "firstFreshAhead", "(I)I"⟩
abbrev cX0_erase : ByteArray := prog_1_method_25_code
def yX0_erase : MethodName := ⟨RX0, "erase", "(II)V"⟩
abbrev cX0_forget : ByteArray := prog_1_method_26_code
def yX0_forget : MethodName := ⟨RX0, "forget", "(I)V"⟩
abbrev cX0_done : ByteArray := prog_1_method_8_code
def yX0_done : MethodName := ⟨RX0, "done", "()I"⟩
abbrev cX0_toEnd : ByteArray := prog_1_method_9_code
def yX0_toEnd : MethodName := ⟨RX0, "toEnd", "()Z"⟩
abbrev cX0_mayMove : ByteArray := prog_1_method_30_code
def yX0_mayMove : MethodName := ⟨RX0, "mayMove", "()Z"⟩
abbrev cX0_toBegin : ByteArray := prog_1_method_10_code
def yX0_toBegin : MethodName := ⟨RX0, "toBegin", "()Z"⟩
abbrev cX0_wipe : ByteArray := prog_1_method_11_code
def yX0_wipe : MethodName := ⟨RX0, "wipe", "()V"⟩
abbrev cX0_event : ByteArray := prog_1_method_13_code
def yX0_event : MethodName := ⟨RX0, "event", "(I)I"⟩
abbrev cX0_look : ByteArray := prog_1_method_14_code
def yX0_look : MethodName := ⟨RX0, "look", "(I)I"⟩
abbrev cX0_of : ByteArray := prog_1_method_12_code
def yX0_of : MethodName := ⟨RX0, "of", "(II)I"⟩
abbrev cX0_stateOf : ByteArray := prog_1_method_19_code
def yX0_stateOf : MethodName := ⟨RX0, "stateOf", "(I)I"⟩
abbrev cX0_innermostAround : ByteArray := prog_1_method_20_code
def yX0_innermostAround : MethodName := ⟨RX0, "innermostAround", "(I)I"⟩
abbrev cX0_weightWithin : ByteArray := prog_1_method_21_code
def yX0_weightWithin : MethodName := ⟨RX0, "weightWithin", "(I)I"⟩
def wX_r0 : List Cond := [Cond.instanceMethod yX0_init, Cond.code yX0_init cX0_init 1 none, Cond.methodLink RX0 3 objectInit, Cond.methodLink RX0 41 yX0_makeEmpty, Cond.instanceMethod yX0_makeEmpty, Cond.code yX0_makeEmpty cX0_makeEmpty 2 none, Cond.fieldLink RX0 9 "TraceLine" "keys" "[I", Cond.fieldLink RX0 13 "TraceLine" "weights" "[I", Cond.fieldLink RX0 16 "TraceLine" "startAt" "[I", Cond.fieldLink RX0 19 "TraceLine" "endAt" "[I", Cond.fieldLink RX0 22 "TraceLine" "staleMark" "[Z", Cond.fieldLink RX0 55 "TraceLine" "intervals" "I", Cond.fieldLink RX0 79 "TraceLine" "staleOnes" "I", Cond.fieldLink RX0 26 "TraceLine" "line" "[I", Cond.fieldLink RX0 106 "TraceLine" "events" "I", Cond.fieldLink RX0 96 "TraceLine" "cursor" "I", Cond.fieldLink RX0 66 "TraceLine" "weightInAll" "I", Cond.fieldLink RX0 29 "TraceLine" "frameInterval" "[I", Cond.fieldLink RX0 32 "TraceLine" "frameKind" "[I", Cond.fieldLink RX0 35 "TraceLine" "frameOpenBelow" "[I", Cond.fieldLink RX0 82 "TraceLine" "frames" "I", Cond.fieldLink RX0 38 "TraceLine" "open" "[I", Cond.fieldLink RX0 51 "TraceLine" "openOnes" "I", Cond.instanceMethod yX0_begin]
def wX_r1 : List Cond := [Cond.selects RX0 yX0_begin yX0_begin, Cond.code yX0_begin cX0_begin 3 (some .int), Cond.methodLink RX0 44 yX0_leastFreeNumber, Cond.instanceMethod yX0_leastFreeNumber, Cond.code yX0_leastFreeNumber cX0_leastFreeNumber 2 (some .int), Cond.methodLink RX0 48 yX0_lastKind, Cond.instanceMethod yX0_lastKind, Cond.code yX0_lastKind cX0_lastKind 1 (some .int), Cond.methodLink RX0 58 yX0_putAtCursor, Cond.instanceMethod yX0_putAtCursor, Cond.code yX0_putAtCursor cX0_putAtCursor 3 none, Cond.methodLink RX0 133 yX0_setPlace, Cond.instanceMethod yX0_setPlace, Cond.code yX0_setPlace cX0_setPlace 3 none, Cond.methodLink RX0 130 yX0_isStart, Cond.static yX0_isStart, Cond.code yX0_isStart cX0_isStart 1 (some .boolean), Cond.instanceMethod yX0_end, Cond.selects RX0 yX0_end yX0_end, Cond.code yX0_end cX0_end 2 (some .int), Cond.methodLink RX0 62 yX0_lastOpen, Cond.instanceMethod yX0_lastOpen, Cond.code yX0_lastOpen cX0_lastOpen 1 (some .int), Cond.instanceMethod yX0_weigh]
def wX_r2 : List Cond := [Cond.selects RX0 yX0_weigh yX0_weigh, Cond.code yX0_weigh cX0_weigh 3 (some .boolean), Cond.constant RX0 65 1000000000, Cond.methodLink RX0 69 yX0_lastInterval, Cond.instanceMethod yX0_lastInterval, Cond.code yX0_lastInterval cX0_lastInterval 1 (some .int), Cond.instanceMethod yX0_stale, Cond.selects RX0 yX0_stale yX0_stale, Cond.code yX0_stale cX0_stale 2 (some .boolean), Cond.methodLink RX0 72 yX0_isThere, Cond.instanceMethod yX0_isThere, Cond.code yX0_isThere cX0_isThere 2 (some .boolean), Cond.methodLink RX0 76 yX0_isEnded, Cond.instanceMethod yX0_isEnded, Cond.code yX0_isEnded cX0_isEnded 2 (some .boolean), Cond.instanceMethod yX0_resume, Cond.selects RX0 yX0_resume yX0_resume, Cond.code yX0_resume cX0_resume 2 (some .int), Cond.methodLink RX0 85 yX0_firstStaleAhead, Cond.instanceMethod yX0_firstStaleAhead, Cond.code yX0_firstStaleAhead cX0_firstStaleAhead 3 (some .int), Cond.methodLink RX0 127 yX0_aheadUpTo, Cond.instanceMethod yX0_aheadUpTo, Cond.code yX0_aheadUpTo cX0_aheadUpTo 2 (some .int)]
def wX_r3 : List Cond := [Cond.methodLink RX0 88 yX0_putFrame, Cond.instanceMethod yX0_putFrame, Cond.code yX0_putFrame cX0_putFrame 3 none, Cond.instanceMethod yX0_take, Cond.selects RX0 yX0_take yX0_take, Cond.code yX0_take cX0_take 3 (some .int), Cond.methodLink RX0 92 yX0_firstFreshAhead, Cond.instanceMethod yX0_firstFreshAhead, Cond.code yX0_firstFreshAhead cX0_firstFreshAhead 6 (some .int), Cond.methodLink RX0 99 yX0_erase, Cond.instanceMethod yX0_erase, Cond.code yX0_erase cX0_erase 5 none, Cond.methodLink RX0 136 yX0_forget, Cond.instanceMethod yX0_forget, Cond.code yX0_forget cX0_forget 2 none, Cond.instanceMethod yX0_done, Cond.selects RX0 yX0_done yX0_done, Cond.code yX0_done cX0_done 2 (some .int), Cond.instanceMethod yX0_toEnd, Cond.selects RX0 yX0_toEnd yX0_toEnd, Cond.code yX0_toEnd cX0_toEnd 1 (some .boolean), Cond.methodLink RX0 102 yX0_mayMove, Cond.instanceMethod yX0_mayMove, Cond.code yX0_mayMove cX0_mayMove 1 (some .boolean)]
def wX_r4 : List Cond := [Cond.instanceMethod yX0_toBegin, Cond.selects RX0 yX0_toBegin yX0_toBegin, Cond.code yX0_toBegin cX0_toBegin 1 (some .boolean), Cond.instanceMethod yX0_wipe, Cond.selects RX0 yX0_wipe yX0_wipe, Cond.code yX0_wipe cX0_wipe 1 none, Cond.instanceMethod yX0_event, Cond.selects RX0 yX0_event yX0_event, Cond.code yX0_event cX0_event 2 (some .int), Cond.instanceMethod yX0_look, Cond.selects RX0 yX0_look yX0_look, Cond.code yX0_look cX0_look 2 (some .int), Cond.instanceMethod yX0_of, Cond.selects RX0 yX0_of yX0_of, Cond.code yX0_of cX0_of 3 (some .int), Cond.methodLink RX0 116 yX0_stateOf, Cond.instanceMethod yX0_stateOf, Cond.code yX0_stateOf cX0_stateOf 2 (some .int), Cond.methodLink RX0 119 yX0_innermostAround, Cond.instanceMethod yX0_innermostAround, Cond.code yX0_innermostAround cX0_innermostAround 4 (some .int), Cond.methodLink RX0 122 yX0_weightWithin, Cond.instanceMethod yX0_weightWithin, Cond.code yX0_weightWithin cX0_weightWithin 5 (some .int)]
def wX_r5 : List Cond := [Cond.selects RX0 yX0_makeEmpty yX0_makeEmpty, Cond.selects RX0 yX0_leastFreeNumber yX0_leastFreeNumber, Cond.selects RX0 yX0_lastKind yX0_lastKind, Cond.selects RX0 yX0_putAtCursor yX0_putAtCursor, Cond.selects RX0 yX0_setPlace yX0_setPlace, Cond.selects RX0 yX0_lastOpen yX0_lastOpen, Cond.selects RX0 yX0_lastInterval yX0_lastInterval, Cond.selects RX0 yX0_isThere yX0_isThere, Cond.selects RX0 yX0_isEnded yX0_isEnded, Cond.selects RX0 yX0_firstStaleAhead yX0_firstStaleAhead, Cond.selects RX0 yX0_aheadUpTo yX0_aheadUpTo, Cond.selects RX0 yX0_putFrame yX0_putFrame, Cond.selects RX0 yX0_firstFreshAhead yX0_firstFreshAhead, Cond.selects RX0 yX0_erase yX0_erase, Cond.selects RX0 yX0_forget yX0_forget, Cond.selects RX0 yX0_mayMove yX0_mayMove, Cond.selects RX0 yX0_stateOf yX0_stateOf, Cond.selects RX0 yX0_innermostAround yX0_innermostAround, Cond.selects RX0 yX0_weightWithin yX0_weightWithin, Cond.initialized RX0, Cond.arrayClass .int, Cond.arrayClass .boolean, Cond.instanceMethod objectInit, Cond.code objectInit ⟨#[0xb1]⟩ 1 none]
def wsX_ : List Cond := wX_r0 ++ (wX_r1 ++ (wX_r2 ++ (wX_r3 ++ (wX_r4 ++ (wX_r5 ++ (wsX00))))))
theorem inwX_ : ∀ w ∈ wsX00, w ∈ wsX_ := fun w h => List.mem_append_right _ (List.mem_append_right _ (List.mem_append_right _ (List.mem_append_right _ (List.mem_append_right _ (List.mem_append_right _ (h))))))
theorem mX_im_init : Cond.instanceMethod yX0_init ∈ wsX_ := List.mem_append_left _ (List.mem_of_getElem? (i := 0) rfl)
theorem mX_co_init : Cond.code yX0_init cX0_init 1 none ∈ wsX_ := List.mem_append_left _ (List.mem_of_getElem? (i := 1) rfl)
theorem mX_ml_3 : Cond.methodLink RX0 3 objectInit ∈ wsX_ := List.mem_append_left _ (List.mem_of_getElem? (i := 2) rfl)
theorem mX_ml_41 : Cond.methodLink RX0 41 yX0_makeEmpty ∈ wsX_ := List.mem_append_left _ (List.mem_of_getElem? (i := 3) rfl)
theorem mX_im_makeEmpty : Cond.instanceMethod yX0_makeEmpty ∈ wsX_ := List.mem_append_left _ (List.mem_of_getElem? (i := 4) rfl)
theorem mX_co_makeEmpty : Cond.code yX0_makeEmpty cX0_makeEmpty 2 none ∈ wsX_ := List.mem_append_left _ (List.mem_of_getElem? (i := 5) rfl)
theorem mX_fl_9 : Cond.fieldLink RX0 9 "TraceLine" "keys" "[I" ∈ wsX_ := List.mem_append_left _ (List.mem_of_getElem? (i := 6) rfl)
theorem mX_fl_13 : Cond.fieldLink RX0 13 "TraceLine" "weights" "[I" ∈ wsX_ := List.mem_append_left _ (List.mem_of_getElem? (i := 7) rfl)
theorem mX_fl_16 : Cond.fieldLink RX0 16 "TraceLine" "startAt" "[I" ∈ wsX_ := List.mem_append_left _ (List.mem_of_getElem? (i := 8) rfl)
theorem mX_fl_19 : Cond.fieldLink RX0 19 "TraceLine" "endAt" "[I" ∈ wsX_ := List.mem_append_left _ (List.mem_of_getElem? (i := 9) rfl)
theorem mX_fl_22 : Cond.fieldLink RX0 22 "TraceLine" "staleMark" "[Z" ∈ wsX_ := List.mem_append_left _ (List.mem_of_getElem? (i := 10) rfl)
theorem mX_fl_55 : Cond.fieldLink RX0 55 "TraceLine" "intervals" "I" ∈ wsX_ := List.mem_append_left _ (List.mem_of_getElem? (i := 11) rfl)
theorem mX_fl_79 : Cond.fieldLink RX0 79 "TraceLine" "staleOnes" "I" ∈ wsX_ := List.mem_append_left _ (List.mem_of_getElem? (i := 12) rfl)
theorem mX_fl_26 : Cond.fieldLink RX0 26 "TraceLine" "line" "[I" ∈ wsX_ := List.mem_append_left _ (List.mem_of_getElem? (i := 13) rfl)
theorem mX_fl_106 : Cond.fieldLink RX0 106 "TraceLine" "events" "I" ∈ wsX_ := List.mem_append_left _ (List.mem_of_getElem? (i := 14) rfl)
theorem mX_fl_96 : Cond.fieldLink RX0 96 "TraceLine" "cursor" "I" ∈ wsX_ := List.mem_append_left _ (List.mem_of_getElem? (i := 15) rfl)
theorem mX_fl_66 : Cond.fieldLink RX0 66 "TraceLine" "weightInAll" "I" ∈ wsX_ := List.mem_append_left _ (List.mem_of_getElem? (i := 16) rfl)
theorem mX_fl_29 : Cond.fieldLink RX0 29 "TraceLine" "frameInterval" "[I" ∈ wsX_ := List.mem_append_left _ (List.mem_of_getElem? (i := 17) rfl)
theorem mX_fl_32 : Cond.fieldLink RX0 32 "TraceLine" "frameKind" "[I" ∈ wsX_ := List.mem_append_left _ (List.mem_of_getElem? (i := 18) rfl)
theorem mX_fl_35 : Cond.fieldLink RX0 35 "TraceLine" "frameOpenBelow" "[I" ∈ wsX_ := List.mem_append_left _ (List.mem_of_getElem? (i := 19) rfl)
theorem mX_fl_82 : Cond.fieldLink RX0 82 "TraceLine" "frames" "I" ∈ wsX_ := List.mem_append_left _ (List.mem_of_getElem? (i := 20) rfl)
theorem mX_fl_38 : Cond.fieldLink RX0 38 "TraceLine" "open" "[I" ∈ wsX_ := List.mem_append_left _ (List.mem_of_getElem? (i := 21) rfl)
theorem mX_fl_51 : Cond.fieldLink RX0 51 "TraceLine" "openOnes" "I" ∈ wsX_ := List.mem_append_left _ (List.mem_of_getElem? (i := 22) rfl)
theorem mX_im_begin : Cond.instanceMethod yX0_begin ∈ wsX_ := List.mem_append_left _ (List.mem_of_getElem? (i := 23) rfl)
theorem mX_se_begin : Cond.selects RX0 yX0_begin yX0_begin ∈ wsX_ := List.mem_append_right _ (List.mem_append_left _ (List.mem_of_getElem? (i := 0) rfl))
theorem mX_co_begin : Cond.code yX0_begin cX0_begin 3 (some .int) ∈ wsX_ := List.mem_append_right _ (List.mem_append_left _ (List.mem_of_getElem? (i := 1) rfl))
theorem mX_ml_44 : Cond.methodLink RX0 44 yX0_leastFreeNumber ∈ wsX_ := List.mem_append_right _ (List.mem_append_left _ (List.mem_of_getElem? (i := 2) rfl))
theorem mX_im_leastFreeNumber : Cond.instanceMethod yX0_leastFreeNumber ∈ wsX_ := List.mem_append_right _ (List.mem_append_left _ (List.mem_of_getElem? (i := 3) rfl))
theorem mX_co_leastFreeNumber : Cond.code yX0_leastFreeNumber cX0_leastFreeNumber 2 (some .int) ∈ wsX_ := List.mem_append_right _ (List.mem_append_left _ (List.mem_of_getElem? (i := 4) rfl))
theorem mX_ml_48 : Cond.methodLink RX0 48 yX0_lastKind ∈ wsX_ := List.mem_append_right _ (List.mem_append_left _ (List.mem_of_getElem? (i := 5) rfl))
theorem mX_im_lastKind : Cond.instanceMethod yX0_lastKind ∈ wsX_ := List.mem_append_right _ (List.mem_append_left _ (List.mem_of_getElem? (i := 6) rfl))
theorem mX_co_lastKind : Cond.code yX0_lastKind cX0_lastKind 1 (some .int) ∈ wsX_ := List.mem_append_right _ (List.mem_append_left _ (List.mem_of_getElem? (i := 7) rfl))
theorem mX_ml_58 : Cond.methodLink RX0 58 yX0_putAtCursor ∈ wsX_ := List.mem_append_right _ (List.mem_append_left _ (List.mem_of_getElem? (i := 8) rfl))
theorem mX_im_putAtCursor : Cond.instanceMethod yX0_putAtCursor ∈ wsX_ := List.mem_append_right _ (List.mem_append_left _ (List.mem_of_getElem? (i := 9) rfl))
theorem mX_co_putAtCursor : Cond.code yX0_putAtCursor cX0_putAtCursor 3 none ∈ wsX_ := List.mem_append_right _ (List.mem_append_left _ (List.mem_of_getElem? (i := 10) rfl))
theorem mX_ml_133 : Cond.methodLink RX0 133 yX0_setPlace ∈ wsX_ := List.mem_append_right _ (List.mem_append_left _ (List.mem_of_getElem? (i := 11) rfl))
theorem mX_im_setPlace : Cond.instanceMethod yX0_setPlace ∈ wsX_ := List.mem_append_right _ (List.mem_append_left _ (List.mem_of_getElem? (i := 12) rfl))
theorem mX_co_setPlace : Cond.code yX0_setPlace cX0_setPlace 3 none ∈ wsX_ := List.mem_append_right _ (List.mem_append_left _ (List.mem_of_getElem? (i := 13) rfl))
theorem mX_ml_130 : Cond.methodLink RX0 130 yX0_isStart ∈ wsX_ := List.mem_append_right _ (List.mem_append_left _ (List.mem_of_getElem? (i := 14) rfl))
theorem mX_st_isStart : Cond.static yX0_isStart ∈ wsX_ := List.mem_append_right _ (List.mem_append_left _ (List.mem_of_getElem? (i := 15) rfl))
theorem mX_co_isStart : Cond.code yX0_isStart cX0_isStart 1 (some .boolean) ∈ wsX_ := List.mem_append_right _ (List.mem_append_left _ (List.mem_of_getElem? (i := 16) rfl))
theorem mX_im_end : Cond.instanceMethod yX0_end ∈ wsX_ := List.mem_append_right _ (List.mem_append_left _ (List.mem_of_getElem? (i := 17) rfl))
theorem mX_se_end : Cond.selects RX0 yX0_end yX0_end ∈ wsX_ := List.mem_append_right _ (List.mem_append_left _ (List.mem_of_getElem? (i := 18) rfl))
theorem mX_co_end : Cond.code yX0_end cX0_end 2 (some .int) ∈ wsX_ := List.mem_append_right _ (List.mem_append_left _ (List.mem_of_getElem? (i := 19) rfl))
theorem mX_ml_62 : Cond.methodLink RX0 62 yX0_lastOpen ∈ wsX_ := List.mem_append_right _ (List.mem_append_left _ (List.mem_of_getElem? (i := 20) rfl))
theorem mX_im_lastOpen : Cond.instanceMethod yX0_lastOpen ∈ wsX_ := List.mem_append_right _ (List.mem_append_left _ (List.mem_of_getElem? (i := 21) rfl))
theorem mX_co_lastOpen : Cond.code yX0_lastOpen cX0_lastOpen 1 (some .int) ∈ wsX_ := List.mem_append_right _ (List.mem_append_left _ (List.mem_of_getElem? (i := 22) rfl))
theorem mX_im_weigh : Cond.instanceMethod yX0_weigh ∈ wsX_ := List.mem_append_right _ (List.mem_append_left _ (List.mem_of_getElem? (i := 23) rfl))
theorem mX_se_weigh : Cond.selects RX0 yX0_weigh yX0_weigh ∈ wsX_ := List.mem_append_right _ (List.mem_append_right _ (List.mem_append_left _ (List.mem_of_getElem? (i := 0) rfl)))
theorem mX_co_weigh : Cond.code yX0_weigh cX0_weigh 3 (some .boolean) ∈ wsX_ := List.mem_append_right _ (List.mem_append_right _ (List.mem_append_left _ (List.mem_of_getElem? (i := 1) rfl)))
theorem mX_cn_65 : Cond.constant RX0 65 1000000000 ∈ wsX_ := List.mem_append_right _ (List.mem_append_right _ (List.mem_append_left _ (List.mem_of_getElem? (i := 2) rfl)))
theorem mX_ml_69 : Cond.methodLink RX0 69 yX0_lastInterval ∈ wsX_ := List.mem_append_right _ (List.mem_append_right _ (List.mem_append_left _ (List.mem_of_getElem? (i := 3) rfl)))
theorem mX_im_lastInterval : Cond.instanceMethod yX0_lastInterval ∈ wsX_ := List.mem_append_right _ (List.mem_append_right _ (List.mem_append_left _ (List.mem_of_getElem? (i := 4) rfl)))
theorem mX_co_lastInterval : Cond.code yX0_lastInterval cX0_lastInterval 1 (some .int) ∈ wsX_ := List.mem_append_right _ (List.mem_append_right _ (List.mem_append_left _ (List.mem_of_getElem? (i := 5) rfl)))
theorem mX_im_stale : Cond.instanceMethod yX0_stale ∈ wsX_ := List.mem_append_right _ (List.mem_append_right _ (List.mem_append_left _ (List.mem_of_getElem? (i := 6) rfl)))
theorem mX_se_stale : Cond.selects RX0 yX0_stale yX0_stale ∈ wsX_ := List.mem_append_right _ (List.mem_append_right _ (List.mem_append_left _ (List.mem_of_getElem? (i := 7) rfl)))
theorem mX_co_stale : Cond.code yX0_stale cX0_stale 2 (some .boolean) ∈ wsX_ := List.mem_append_right _ (List.mem_append_right _ (List.mem_append_left _ (List.mem_of_getElem? (i := 8) rfl)))
theorem mX_ml_72 : Cond.methodLink RX0 72 yX0_isThere ∈ wsX_ := List.mem_append_right _ (List.mem_append_right _ (List.mem_append_left _ (List.mem_of_getElem? (i := 9) rfl)))
theorem mX_im_isThere : Cond.instanceMethod yX0_isThere ∈ wsX_ := List.mem_append_right _ (List.mem_append_right _ (List.mem_append_left _ (List.mem_of_getElem? (i := 10) rfl)))
theorem mX_co_isThere : Cond.code yX0_isThere cX0_isThere 2 (some .boolean) ∈ wsX_ := List.mem_append_right _ (List.mem_append_right _ (List.mem_append_left _ (List.mem_of_getElem? (i := 11) rfl)))
theorem mX_ml_76 : Cond.methodLink RX0 76 yX0_isEnded ∈ wsX_ := List.mem_append_right _ (List.mem_append_right _ (List.mem_append_left _ (List.mem_of_getElem? (i := 12) rfl)))
theorem mX_im_isEnded : Cond.instanceMethod yX0_isEnded ∈ wsX_ := List.mem_append_right _ (List.mem_append_right _ (List.mem_append_left _ (List.mem_of_getElem? (i := 13) rfl)))
theorem mX_co_isEnded : Cond.code yX0_isEnded cX0_isEnded 2 (some .boolean) ∈ wsX_ := List.mem_append_right _ (List.mem_append_right _ (List.mem_append_left _ (List.mem_of_getElem? (i := 14) rfl)))
theorem mX_im_resume : Cond.instanceMethod yX0_resume ∈ wsX_ := List.mem_append_right _ (List.mem_append_right _ (List.mem_append_left _ (List.mem_of_getElem? (i := 15) rfl)))
theorem mX_se_resume : Cond.selects RX0 yX0_resume yX0_resume ∈ wsX_ := List.mem_append_right _ (List.mem_append_right _ (List.mem_append_left _ (List.mem_of_getElem? (i := 16) rfl)))
theorem mX_co_resume : Cond.code yX0_resume cX0_resume 2 (some .int) ∈ wsX_ := List.mem_append_right _ (List.mem_append_right _ (List.mem_append_left _ (List.mem_of_getElem? (i := 17) rfl)))
theorem mX_ml_85 : Cond.methodLink RX0 85 yX0_firstStaleAhead ∈ wsX_ := List.mem_append_right _ (List.mem_append_right _ (List.mem_append_left _ (List.mem_of_getElem? (i := 18) rfl)))
theorem mX_im_firstStaleAhead : Cond.instanceMethod yX0_firstStaleAhead ∈ wsX_ := List.mem_append_right _ (List.mem_append_right _ (List.mem_append_left _ (List.mem_of_getElem? (i := 19) rfl)))
theorem mX_co_firstStaleAhead : Cond.code yX0_firstStaleAhead cX0_firstStaleAhead 3 (some .int) ∈ wsX_ := List.mem_append_right _ (List.mem_append_right _ (List.mem_append_left _ (List.mem_of_getElem? (i := 20) rfl)))
theorem mX_ml_127 : Cond.methodLink RX0 127 yX0_aheadUpTo ∈ wsX_ := List.mem_append_right _ (List.mem_append_right _ (List.mem_append_left _ (List.mem_of_getElem? (i := 21) rfl)))
theorem mX_im_aheadUpTo : Cond.instanceMethod yX0_aheadUpTo ∈ wsX_ := List.mem_append_right _ (List.mem_append_right _ (List.mem_append_left _ (List.mem_of_getElem? (i := 22) rfl)))
theorem mX_co_aheadUpTo : Cond.code yX0_aheadUpTo cX0_aheadUpTo 2 (some .int) ∈ wsX_ := List.mem_append_right _ (List.mem_append_right _ (List.mem_append_left _ (List.mem_of_getElem? (i := 23) rfl)))
theorem mX_ml_88 : Cond.methodLink RX0 88 yX0_putFrame ∈ wsX_ := List.mem_append_right _ (List.mem_append_right _ (List.mem_append_right _ (List.mem_append_left _ (List.mem_of_getElem? (i := 0) rfl))))
theorem mX_im_putFrame : Cond.instanceMethod yX0_putFrame ∈ wsX_ := List.mem_append_right _ (List.mem_append_right _ (List.mem_append_right _ (List.mem_append_left _ (List.mem_of_getElem? (i := 1) rfl))))
theorem mX_co_putFrame : Cond.code yX0_putFrame cX0_putFrame 3 none ∈ wsX_ := List.mem_append_right _ (List.mem_append_right _ (List.mem_append_right _ (List.mem_append_left _ (List.mem_of_getElem? (i := 2) rfl))))
theorem mX_im_take : Cond.instanceMethod yX0_take ∈ wsX_ := List.mem_append_right _ (List.mem_append_right _ (List.mem_append_right _ (List.mem_append_left _ (List.mem_of_getElem? (i := 3) rfl))))
theorem mX_se_take : Cond.selects RX0 yX0_take yX0_take ∈ wsX_ := List.mem_append_right _ (List.mem_append_right _ (List.mem_append_right _ (List.mem_append_left _ (List.mem_of_getElem? (i := 4) rfl))))
theorem mX_co_take : Cond.code yX0_take cX0_take 3 (some .int) ∈ wsX_ := List.mem_append_right _ (List.mem_append_right _ (List.mem_append_right _ (List.mem_append_left _ (List.mem_of_getElem? (i := 5) rfl))))
theorem mX_ml_92 : Cond.methodLink RX0 92 yX0_firstFreshAhead ∈ wsX_ := List.mem_append_right _ (List.mem_append_right _ (List.mem_append_right _ (List.mem_append_left _ (List.mem_of_getElem? (i := 6) rfl))))
theorem mX_im_firstFreshAhead : Cond.instanceMethod yX0_firstFreshAhead ∈ wsX_ := List.mem_append_right _ (List.mem_append_right _ (List.mem_append_right _ (List.mem_append_left _ (List.mem_of_getElem? (i := 7) rfl))))
theorem mX_co_firstFreshAhead : Cond.code yX0_firstFreshAhead cX0_firstFreshAhead 6 (some .int) ∈ wsX_ := List.mem_append_right _ (List.mem_append_right _ (List.mem_append_right _ (List.mem_append_left _ (List.mem_of_getElem? (i := 8) rfl))))
theorem mX_ml_99 : Cond.methodLink RX0 99 yX0_erase ∈ wsX_ := List.mem_append_right _ (List.mem_append_right _ (List.mem_append_right _ (List.mem_append_left _ (List.mem_of_getElem? (i := 9) rfl))))
theorem mX_im_erase : Cond.instanceMethod yX0_erase ∈ wsX_ := List.mem_append_right _ (List.mem_append_right _ (List.mem_append_right _ (List.mem_append_left _ (List.mem_of_getElem? (i := 10) rfl))))
theorem mX_co_erase : Cond.code yX0_erase cX0_erase 5 none ∈ wsX_ := List.mem_append_right _ (List.mem_append_right _ (List.mem_append_right _ (List.mem_append_left _ (List.mem_of_getElem? (i := 11) rfl))))
theorem mX_ml_136 : Cond.methodLink RX0 136 yX0_forget ∈ wsX_ := List.mem_append_right _ (List.mem_append_right _ (List.mem_append_right _ (List.mem_append_left _ (List.mem_of_getElem? (i := 12) rfl))))
theorem mX_im_forget : Cond.instanceMethod yX0_forget ∈ wsX_ := List.mem_append_right _ (List.mem_append_right _ (List.mem_append_right _ (List.mem_append_left _ (List.mem_of_getElem? (i := 13) rfl))))
theorem mX_co_forget : Cond.code yX0_forget cX0_forget 2 none ∈ wsX_ := List.mem_append_right _ (List.mem_append_right _ (List.mem_append_right _ (List.mem_append_left _ (List.mem_of_getElem? (i := 14) rfl))))
theorem mX_im_done : Cond.instanceMethod yX0_done ∈ wsX_ := List.mem_append_right _ (List.mem_append_right _ (List.mem_append_right _ (List.mem_append_left _ (List.mem_of_getElem? (i := 15) rfl))))
theorem mX_se_done : Cond.selects RX0 yX0_done yX0_done ∈ wsX_ := List.mem_append_right _ (List.mem_append_right _ (List.mem_append_right _ (List.mem_append_left _ (List.mem_of_getElem? (i := 16) rfl))))
theorem mX_co_done : Cond.code yX0_done cX0_done 2 (some .int) ∈ wsX_ := List.mem_append_right _ (List.mem_append_right _ (List.mem_append_right _ (List.mem_append_left _ (List.mem_of_getElem? (i := 17) rfl))))
theorem mX_im_toEnd : Cond.instanceMethod yX0_toEnd ∈ wsX_ := List.mem_append_right _ (List.mem_append_right _ (List.mem_append_right _ (List.mem_append_left _ (List.mem_of_getElem? (i := 18) rfl))))
theorem mX_se_toEnd : Cond.selects RX0 yX0_toEnd yX0_toEnd ∈ wsX_ := List.mem_append_right _ (List.mem_append_right _ (List.mem_append_right _ (List.mem_append_left _ (List.mem_of_getElem? (i := 19) rfl))))
theorem mX_co_toEnd : Cond.code yX0_toEnd cX0_toEnd 1 (some .boolean) ∈ wsX_ := List.mem_append_right _ (List.mem_append_right _ (List.mem_append_right _ (List.mem_append_left _ (List.mem_of_getElem? (i := 20) rfl))))
theorem mX_ml_102 : Cond.methodLink RX0 102 yX0_mayMove ∈ wsX_ := List.mem_append_right _ (List.mem_append_right _ (List.mem_append_right _ (List.mem_append_left _ (List.mem_of_getElem? (i := 21) rfl))))
theorem mX_im_mayMove : Cond.instanceMethod yX0_mayMove ∈ wsX_ := List.mem_append_right _ (List.mem_append_right _ (List.mem_append_right _ (List.mem_append_left _ (List.mem_of_getElem? (i := 22) rfl))))
theorem mX_co_mayMove : Cond.code yX0_mayMove cX0_mayMove 1 (some .boolean) ∈ wsX_ := List.mem_append_right _ (List.mem_append_right _ (List.mem_append_right _ (List.mem_append_left _ (List.mem_of_getElem? (i := 23) rfl))))
theorem mX_im_toBegin : Cond.instanceMethod yX0_toBegin ∈ wsX_ := List.mem_append_right _ (List.mem_append_right _ (List.mem_append_right _ (List.mem_append_right _ (List.mem_append_left _ (List.mem_of_getElem? (i := 0) rfl)))))
theorem mX_se_toBegin : Cond.selects RX0 yX0_toBegin yX0_toBegin ∈ wsX_ := List.mem_append_right _ (List.mem_append_right _ (List.mem_append_right _ (List.mem_append_right _ (List.mem_append_left _ (List.mem_of_getElem? (i := 1) rfl)))))
theorem mX_co_toBegin : Cond.code yX0_toBegin cX0_toBegin 1 (some .boolean) ∈ wsX_ := List.mem_append_right _ (List.mem_append_right _ (List.mem_append_right _ (List.mem_append_right _ (List.mem_append_left _ (List.mem_of_getElem? (i := 2) rfl)))))
theorem mX_im_wipe : Cond.instanceMethod yX0_wipe ∈ wsX_ := List.mem_append_right _ (List.mem_append_right _ (List.mem_append_right _ (List.mem_append_right _ (List.mem_append_left _ (List.mem_of_getElem? (i := 3) rfl)))))
theorem mX_se_wipe : Cond.selects RX0 yX0_wipe yX0_wipe ∈ wsX_ := List.mem_append_right _ (List.mem_append_right _ (List.mem_append_right _ (List.mem_append_right _ (List.mem_append_left _ (List.mem_of_getElem? (i := 4) rfl)))))
theorem mX_co_wipe : Cond.code yX0_wipe cX0_wipe 1 none ∈ wsX_ := List.mem_append_right _ (List.mem_append_right _ (List.mem_append_right _ (List.mem_append_right _ (List.mem_append_left _ (List.mem_of_getElem? (i := 5) rfl)))))
theorem mX_im_event : Cond.instanceMethod yX0_event ∈ wsX_ := List.mem_append_right _ (List.mem_append_right _ (List.mem_append_right _ (List.mem_append_right _ (List.mem_append_left _ (List.mem_of_getElem? (i := 6) rfl)))))
theorem mX_se_event : Cond.selects RX0 yX0_event yX0_event ∈ wsX_ := List.mem_append_right _ (List.mem_append_right _ (List.mem_append_right _ (List.mem_append_right _ (List.mem_append_left _ (List.mem_of_getElem? (i := 7) rfl)))))
theorem mX_co_event : Cond.code yX0_event cX0_event 2 (some .int) ∈ wsX_ := List.mem_append_right _ (List.mem_append_right _ (List.mem_append_right _ (List.mem_append_right _ (List.mem_append_left _ (List.mem_of_getElem? (i := 8) rfl)))))
theorem mX_im_look : Cond.instanceMethod yX0_look ∈ wsX_ := List.mem_append_right _ (List.mem_append_right _ (List.mem_append_right _ (List.mem_append_right _ (List.mem_append_left _ (List.mem_of_getElem? (i := 9) rfl)))))
theorem mX_se_look : Cond.selects RX0 yX0_look yX0_look ∈ wsX_ := List.mem_append_right _ (List.mem_append_right _ (List.mem_append_right _ (List.mem_append_right _ (List.mem_append_left _ (List.mem_of_getElem? (i := 10) rfl)))))
theorem mX_co_look : Cond.code yX0_look cX0_look 2 (some .int) ∈ wsX_ := List.mem_append_right _ (List.mem_append_right _ (List.mem_append_right _ (List.mem_append_right _ (List.mem_append_left _ (List.mem_of_getElem? (i := 11) rfl)))))
theorem mX_im_of : Cond.instanceMethod yX0_of ∈ wsX_ := List.mem_append_right _ (List.mem_append_right _ (List.mem_append_right _ (List.mem_append_right _ (List.mem_append_left _ (List.mem_of_getElem? (i := 12) rfl)))))
theorem mX_se_of : Cond.selects RX0 yX0_of yX0_of ∈ wsX_ := List.mem_append_right _ (List.mem_append_right _ (List.mem_append_right _ (List.mem_append_right _ (List.mem_append_left _ (List.mem_of_getElem? (i := 13) rfl)))))
theorem mX_co_of : Cond.code yX0_of cX0_of 3 (some .int) ∈ wsX_ := List.mem_append_right _ (List.mem_append_right _ (List.mem_append_right _ (List.mem_append_right _ (List.mem_append_left _ (List.mem_of_getElem? (i := 14) rfl)))))
theorem mX_ml_116 : Cond.methodLink RX0 116 yX0_stateOf ∈ wsX_ := List.mem_append_right _ (List.mem_append_right _ (List.mem_append_right _ (List.mem_append_right _ (List.mem_append_left _ (List.mem_of_getElem? (i := 15) rfl)))))
theorem mX_im_stateOf : Cond.instanceMethod yX0_stateOf ∈ wsX_ := List.mem_append_right _ (List.mem_append_right _ (List.mem_append_right _ (List.mem_append_right _ (List.mem_append_left _ (List.mem_of_getElem? (i := 16) rfl)))))
theorem mX_co_stateOf : Cond.code yX0_stateOf cX0_stateOf 2 (some .int) ∈ wsX_ := List.mem_append_right _ (List.mem_append_right _ (List.mem_append_right _ (List.mem_append_right _ (List.mem_append_left _ (List.mem_of_getElem? (i := 17) rfl)))))
theorem mX_ml_119 : Cond.methodLink RX0 119 yX0_innermostAround ∈ wsX_ := List.mem_append_right _ (List.mem_append_right _ (List.mem_append_right _ (List.mem_append_right _ (List.mem_append_left _ (List.mem_of_getElem? (i := 18) rfl)))))
theorem mX_im_innermostAround : Cond.instanceMethod yX0_innermostAround ∈ wsX_ := List.mem_append_right _ (List.mem_append_right _ (List.mem_append_right _ (List.mem_append_right _ (List.mem_append_left _ (List.mem_of_getElem? (i := 19) rfl)))))
theorem mX_co_innermostAround : Cond.code yX0_innermostAround cX0_innermostAround 4 (some .int) ∈ wsX_ := List.mem_append_right _ (List.mem_append_right _ (List.mem_append_right _ (List.mem_append_right _ (List.mem_append_left _ (List.mem_of_getElem? (i := 20) rfl)))))
theorem mX_ml_122 : Cond.methodLink RX0 122 yX0_weightWithin ∈ wsX_ := List.mem_append_right _ (List.mem_append_right _ (List.mem_append_right _ (List.mem_append_right _ (List.mem_append_left _ (List.mem_of_getElem? (i := 21) rfl)))))
theorem mX_im_weightWithin : Cond.instanceMethod yX0_weightWithin ∈ wsX_ := List.mem_append_right _ (List.mem_append_right _ (List.mem_append_right _ (List.mem_append_right _ (List.mem_append_left _ (List.mem_of_getElem? (i := 22) rfl)))))
theorem mX_co_weightWithin : Cond.code yX0_weightWithin cX0_weightWithin 5 (some .int) ∈ wsX_ := List.mem_append_right _ (List.mem_append_right _ (List.mem_append_right _ (List.mem_append_right _ (List.mem_append_left _ (List.mem_of_getElem? (i := 23) rfl)))))
theorem mX_se_makeEmpty : Cond.selects RX0 yX0_makeEmpty yX0_makeEmpty ∈ wsX_ := List.mem_append_right _ (List.mem_append_right _ (List.mem_append_right _ (List.mem_append_right _ (List.mem_append_right _ (List.mem_append_left _ (List.mem_of_getElem? (i := 0) rfl))))))
theorem mX_se_leastFreeNumber : Cond.selects RX0 yX0_leastFreeNumber yX0_leastFreeNumber ∈ wsX_ := List.mem_append_right _ (List.mem_append_right _ (List.mem_append_right _ (List.mem_append_right _ (List.mem_append_right _ (List.mem_append_left _ (List.mem_of_getElem? (i := 1) rfl))))))
theorem mX_se_lastKind : Cond.selects RX0 yX0_lastKind yX0_lastKind ∈ wsX_ := List.mem_append_right _ (List.mem_append_right _ (List.mem_append_right _ (List.mem_append_right _ (List.mem_append_right _ (List.mem_append_left _ (List.mem_of_getElem? (i := 2) rfl))))))
theorem mX_se_putAtCursor : Cond.selects RX0 yX0_putAtCursor yX0_putAtCursor ∈ wsX_ := List.mem_append_right _ (List.mem_append_right _ (List.mem_append_right _ (List.mem_append_right _ (List.mem_append_right _ (List.mem_append_left _ (List.mem_of_getElem? (i := 3) rfl))))))
theorem mX_se_setPlace : Cond.selects RX0 yX0_setPlace yX0_setPlace ∈ wsX_ := List.mem_append_right _ (List.mem_append_right _ (List.mem_append_right _ (List.mem_append_right _ (List.mem_append_right _ (List.mem_append_left _ (List.mem_of_getElem? (i := 4) rfl))))))
theorem mX_se_lastOpen : Cond.selects RX0 yX0_lastOpen yX0_lastOpen ∈ wsX_ := List.mem_append_right _ (List.mem_append_right _ (List.mem_append_right _ (List.mem_append_right _ (List.mem_append_right _ (List.mem_append_left _ (List.mem_of_getElem? (i := 5) rfl))))))
theorem mX_se_lastInterval : Cond.selects RX0 yX0_lastInterval yX0_lastInterval ∈ wsX_ := List.mem_append_right _ (List.mem_append_right _ (List.mem_append_right _ (List.mem_append_right _ (List.mem_append_right _ (List.mem_append_left _ (List.mem_of_getElem? (i := 6) rfl))))))
theorem mX_se_isThere : Cond.selects RX0 yX0_isThere yX0_isThere ∈ wsX_ := List.mem_append_right _ (List.mem_append_right _ (List.mem_append_right _ (List.mem_append_right _ (List.mem_append_right _ (List.mem_append_left _ (List.mem_of_getElem? (i := 7) rfl))))))
theorem mX_se_isEnded : Cond.selects RX0 yX0_isEnded yX0_isEnded ∈ wsX_ := List.mem_append_right _ (List.mem_append_right _ (List.mem_append_right _ (List.mem_append_right _ (List.mem_append_right _ (List.mem_append_left _ (List.mem_of_getElem? (i := 8) rfl))))))
theorem mX_se_firstStaleAhead : Cond.selects RX0 yX0_firstStaleAhead yX0_firstStaleAhead ∈ wsX_ := List.mem_append_right _ (List.mem_append_right _ (List.mem_append_right _ (List.mem_append_right _ (List.mem_append_right _ (List.mem_append_left _ (List.mem_of_getElem? (i := 9) rfl))))))
theorem mX_se_aheadUpTo : Cond.selects RX0 yX0_aheadUpTo yX0_aheadUpTo ∈ wsX_ := List.mem_append_right _ (List.mem_append_right _ (List.mem_append_right _ (List.mem_append_right _ (List.mem_append_right _ (List.mem_append_left _ (List.mem_of_getElem? (i := 10) rfl))))))
theorem mX_se_putFrame : Cond.selects RX0 yX0_putFrame yX0_putFrame ∈ wsX_ := List.mem_append_right _ (List.mem_append_right _ (List.mem_append_right _ (List.mem_append_right _ (List.mem_append_right _ (List.mem_append_left _ (List.mem_of_getElem? (i := 11) rfl))))))
theorem mX_se_firstFreshAhead : Cond.selects RX0 yX0_firstFreshAhead yX0_firstFreshAhead ∈ wsX_ := List.mem_append_right _ (List.mem_append_right _ (List.mem_append_right _ (List.mem_append_right _ (List.mem_append_right _ (List.mem_append_left _ (List.mem_of_getElem? (i := 12) rfl))))))
theorem mX_se_erase : Cond.selects RX0 yX0_erase yX0_erase ∈ wsX_ := List.mem_append_right _ (List.mem_append_right _ (List.mem_append_right _ (List.mem_append_right _ (List.mem_append_right _ (List.mem_append_left _ (List.mem_of_getElem? (i := 13) rfl))))))
theorem mX_se_forget : Cond.selects RX0 yX0_forget yX0_forget ∈ wsX_ := List.mem_append_right _ (List.mem_append_right _ (List.mem_append_right _ (List.mem_append_right _ (List.mem_append_right _ (List.mem_append_left _ (List.mem_of_getElem? (i := 14) rfl))))))
theorem mX_se_mayMove : Cond.selects RX0 yX0_mayMove yX0_mayMove ∈ wsX_ := List.mem_append_right _ (List.mem_append_right _ (List.mem_append_right _ (List.mem_append_right _ (List.mem_append_right _ (List.mem_append_left _ (List.mem_of_getElem? (i := 15) rfl))))))
theorem mX_se_stateOf : Cond.selects RX0 yX0_stateOf yX0_stateOf ∈ wsX_ := List.mem_append_right _ (List.mem_append_right _ (List.mem_append_right _ (List.mem_append_right _ (List.mem_append_right _ (List.mem_append_left _ (List.mem_of_getElem? (i := 16) rfl))))))
theorem mX_se_innermostAround : Cond.selects RX0 yX0_innermostAround yX0_innermostAround ∈ wsX_ := List.mem_append_right _ (List.mem_append_right _ (List.mem_append_right _ (List.mem_append_right _ (List.mem_append_right _ (List.mem_append_left _ (List.mem_of_getElem? (i := 17) rfl))))))
theorem mX_se_weightWithin : Cond.selects RX0 yX0_weightWithin yX0_weightWithin ∈ wsX_ := List.mem_append_right _ (List.mem_append_right _ (List.mem_append_right _ (List.mem_append_right _ (List.mem_append_right _ (List.mem_append_left _ (List.mem_of_getElem? (i := 18) rfl))))))
theorem mX_in_ : Cond.initialized RX0 ∈ wsX_ := List.mem_append_right _ (List.mem_append_right _ (List.mem_append_right _ (List.mem_append_right _ (List.mem_append_right _ (List.mem_append_left _ (List.mem_of_getElem? (i := 19) rfl))))))
theorem mX_ac_i : Cond.arrayClass .int ∈ wsX_ := List.mem_append_right _ (List.mem_append_right _ (List.mem_append_right _ (List.mem_append_right _ (List.mem_append_right _ (List.mem_append_left _ (List.mem_of_getElem? (i := 20) rfl))))))
theorem mX_ac_z : Cond.arrayClass .boolean ∈ wsX_ := List.mem_append_right _ (List.mem_append_right _ (List.mem_append_right _ (List.mem_append_right _ (List.mem_append_right _ (List.mem_append_left _ (List.mem_of_getElem? (i := 21) rfl))))))
theorem mX_oi : Cond.instanceMethod objectInit ∈ wsX_ := List.mem_append_right _ (List.mem_append_right _ (List.mem_append_right _ (List.mem_append_right _ (List.mem_append_right _ (List.mem_append_left _ (List.mem_of_getElem? (i := 22) rfl))))))
theorem mX_oc : Cond.code objectInit ⟨#[0xb1]⟩ 1 none ∈ wsX_ := List.mem_append_right _ (List.mem_append_right _ (List.mem_append_right _ (List.mem_append_right _ (List.mem_append_right _ (List.mem_append_left _ (List.mem_of_getElem? (i := 23) rfl))))))
theorem gX_all : GoodIn wsX_ wsX_ := goodIn_sub (fun _ h => h) (by decide +kernel)
def wsX0_init : List Cond := .code yX0_init cX0_init 1 none :: wsX_
def wsX0_makeEmpty : List Cond := .code yX0_makeEmpty cX0_makeEmpty 2 none :: wsX_
theorem qX_makeEmpty : GoodIn wsX_ (wsV RX0 41 RX0 yX0_makeEmpty wsX0_makeEmpty) := gi_V gX_all mX_ml_41 mX_im_makeEmpty mX_se_makeEmpty mX_in_ mX_co_makeEmpty
def wsX0_begin : List Cond := .code yX0_begin cX0_begin 3 (some .int) :: wsX_
def wsX0_leastFreeNumber : List Cond := .code yX0_leastFreeNumber cX0_leastFreeNumber 2 (some .int) :: wsX_
theorem qX_leastFreeNumber : GoodIn wsX_ (wsV RX0 44 RX0 yX0_leastFreeNumber wsX0_leastFreeNumber) := gi_V gX_all mX_ml_44 mX_im_leastFreeNumber mX_se_leastFreeNumber mX_in_ mX_co_leastFreeNumber
def wsX0_lastKind : List Cond := .code yX0_lastKind cX0_lastKind 1 (some .int) :: wsX_
theorem qX_lastKind : GoodIn wsX_ (wsV RX0 48 RX0 yX0_lastKind wsX0_lastKind) := gi_V gX_all mX_ml_48 mX_im_lastKind mX_se_lastKind mX_in_ mX_co_lastKind
def wsX0_putAtCursor : List Cond := .code yX0_putAtCursor cX0_putAtCursor 3 none :: wsX_
theorem qX_putAtCursor : GoodIn wsX_ (wsV RX0 58 RX0 yX0_putAtCursor wsX0_putAtCursor) := gi_V gX_all mX_ml_58 mX_im_putAtCursor mX_se_putAtCursor mX_in_ mX_co_putAtCursor
def wsX0_setPlace : List Cond := .code yX0_setPlace cX0_setPlace 3 none :: wsX_
theorem qX_setPlace : GoodIn wsX_ (wsV RX0 133 RX0 yX0_setPlace wsX0_setPlace) := gi_V gX_all mX_ml_133 mX_im_setPlace mX_se_setPlace mX_in_ mX_co_setPlace
def wsX0_isStart : List Cond := .code yX0_isStart cX0_isStart 1 (some .boolean) :: wsX_
theorem qX_isStart : GoodIn wsX_ (wsS RX0 130 yX0_isStart wsX0_isStart) := gi_S gX_all mX_ml_130 mX_st_isStart mX_in_ mX_co_isStart
def wsX0_end : List Cond := .code yX0_end cX0_end 2 (some .int) :: wsX_
def wsX0_lastOpen : List Cond := .code yX0_lastOpen cX0_lastOpen 1 (some .int) :: wsX_
theorem qX_lastOpen : GoodIn wsX_ (wsV RX0 62 RX0 yX0_lastOpen wsX0_lastOpen) := gi_V gX_all mX_ml_62 mX_im_lastOpen mX_se_lastOpen mX_in_ mX_co_lastOpen
def wsX0_weigh : List Cond := .code yX0_weigh cX0_weigh 3 (some .boolean) :: wsX_
def wsX0_lastInterval : List Cond := .code yX0_lastInterval cX0_lastInterval 1 (some .int) :: wsX_
theorem qX_lastInterval : GoodIn wsX_ (wsV RX0 69 RX0 yX0_lastInterval wsX0_lastInterval) := gi_V gX_all mX_ml_69 mX_im_lastInterval mX_se_lastInterval mX_in_ mX_co_lastInterval
def wsX0_stale : List Cond := .code yX0_stale cX0_stale 2 (some .boolean) :: wsX_
def wsX0_isThere : List Cond := .code yX0_isThere cX0_isThere 2 (some .boolean) :: wsX_
theorem qX_isThere : GoodIn wsX_ (wsV RX0 72 RX0 yX0_isThere wsX0_isThere) := gi_V gX_all mX_ml_72 mX_im_isThere mX_se_isThere mX_in_ mX_co_isThere
def wsX0_isEnded : List Cond := .code yX0_isEnded cX0_isEnded 2 (some .boolean) :: wsX_
theorem qX_isEnded : GoodIn wsX_ (wsV RX0 76 RX0 yX0_isEnded wsX0_isEnded) := gi_V gX_all mX_ml_76 mX_im_isEnded mX_se_isEnded mX_in_ mX_co_isEnded
def wsX0_resume : List Cond := .code yX0_resume cX0_resume 2 (some .int) :: wsX_
def wsX0_firstStaleAhead : List Cond := .code yX0_firstStaleAhead cX0_firstStaleAhead 3 (some .int) :: wsX_
theorem qX_firstStaleAhead : GoodIn wsX_ (wsV RX0 85 RX0 yX0_firstStaleAhead wsX0_firstStaleAhead) := gi_V gX_all mX_ml_85 mX_im_firstStaleAhead mX_se_firstStaleAhead mX_in_ mX_co_firstStaleAhead
def wsX0_aheadUpTo : List Cond := .code yX0_aheadUpTo cX0_aheadUpTo 2 (some .int) :: wsX_
theorem qX_aheadUpTo : GoodIn wsX_ (wsV RX0 127 RX0 yX0_aheadUpTo wsX0_aheadUpTo) := gi_V gX_all mX_ml_127 mX_im_aheadUpTo mX_se_aheadUpTo mX_in_ mX_co_aheadUpTo
def wsX0_putFrame : List Cond := .code yX0_putFrame cX0_putFrame 3 none :: wsX_
theorem qX_putFrame : GoodIn wsX_ (wsV RX0 88 RX0 yX0_putFrame wsX0_putFrame) := gi_V gX_all mX_ml_88 mX_im_putFrame mX_se_putFrame mX_in_ mX_co_putFrame
def wsX0_take : List Cond := .code yX0_take cX0_take 3 (some .int) :: wsX_
def wsX0_firstFreshAhead : List Cond := .code yX0_firstFreshAhead cX0_firstFreshAhead 6 (some .int) :: wsX_
theorem qX_firstFreshAhead : GoodIn wsX_ (wsV RX0 92 RX0 yX0_firstFreshAhead wsX0_firstFreshAhead) := gi_V gX_all mX_ml_92 mX_im_firstFreshAhead mX_se_firstFreshAhead mX_in_ mX_co_firstFreshAhead
def wsX0_erase : List Cond := .code yX0_erase cX0_erase 5 none :: wsX_
theorem qX_erase : GoodIn wsX_ (wsV RX0 99 RX0 yX0_erase wsX0_erase) := gi_V gX_all mX_ml_99 mX_im_erase mX_se_erase mX_in_ mX_co_erase
def wsX0_forget : List Cond := .code yX0_forget cX0_forget 2 none :: wsX_
theorem qX_forget : GoodIn wsX_ (wsV RX0 136 RX0 yX0_forget wsX0_forget) := gi_V gX_all mX_ml_136 mX_im_forget mX_se_forget mX_in_ mX_co_forget
def wsX0_done : List Cond := .code yX0_done cX0_done 2 (some .int) :: wsX_
def wsX0_toEnd : List Cond := .code yX0_toEnd cX0_toEnd 1 (some .boolean) :: wsX_
def wsX0_mayMove : List Cond := .code yX0_mayMove cX0_mayMove 1 (some .boolean) :: wsX_
theorem qX_mayMove : GoodIn wsX_ (wsV RX0 102 RX0 yX0_mayMove wsX0_mayMove) := gi_V gX_all mX_ml_102 mX_im_mayMove mX_se_mayMove mX_in_ mX_co_mayMove
def wsX0_toBegin : List Cond := .code yX0_toBegin cX0_toBegin 1 (some .boolean) :: wsX_
def wsX0_wipe : List Cond := .code yX0_wipe cX0_wipe 1 none :: wsX_
def wsX0_event : List Cond := .code yX0_event cX0_event 2 (some .int) :: wsX_
def wsX0_look : List Cond := .code yX0_look cX0_look 2 (some .int) :: wsX_
def wsX0_of : List Cond := .code yX0_of cX0_of 3 (some .int) :: wsX_
def wsX0_stateOf : List Cond := .code yX0_stateOf cX0_stateOf 2 (some .int) :: wsX_
theorem qX_stateOf : GoodIn wsX_ (wsV RX0 116 RX0 yX0_stateOf wsX0_stateOf) := gi_V gX_all mX_ml_116 mX_im_stateOf mX_se_stateOf mX_in_ mX_co_stateOf
def wsX0_innermostAround : List Cond := .code yX0_innermostAround cX0_innermostAround 4 (some .int) :: wsX_
theorem qX_innermostAround : GoodIn wsX_ (wsV RX0 119 RX0 yX0_innermostAround wsX0_innermostAround) := gi_V gX_all mX_ml_119 mX_im_innermostAround mX_se_innermostAround mX_in_ mX_co_innermostAround
def wsX0_weightWithin : List Cond := .code yX0_weightWithin cX0_weightWithin 5 (some .int) :: wsX_
theorem qX_weightWithin : GoodIn wsX_ (wsV RX0 122 RX0 yX0_weightWithin wsX0_weightWithin) := gi_V gX_all mX_ml_122 mX_im_weightWithin mX_se_weightWithin mX_in_ mX_co_weightWithin
theorem dX0_init_0 : decode cX0_init 0 = .ok (.aload_n 0, 1) := by decide +kernel
theorem dX0_init_1 : decode cX0_init 1 = .ok (.invokespecial 3, 3) := by decide +kernel
theorem dX0_init_4 : decode cX0_init 4 = .ok (.aload_n 0, 1) := by decide +kernel
theorem dX0_init_5 : decode cX0_init 5 = .ok (.sipush 600, 3) := by decide +kernel
theorem dX0_init_8 : decode cX0_init 8 = .ok (.newarray .int, 2) := by decide +kernel
theorem dX0_init_10 : decode cX0_init 10 = .ok (.putfield 9, 3) := by decide +kernel
theorem dX0_init_13 : decode cX0_init 13 = .ok (.aload_n 0, 1) := by decide +kernel
theorem dX0_init_14 : decode cX0_init 14 = .ok (.sipush 600, 3) := by decide +kernel
theorem dX0_init_17 : decode cX0_init 17 = .ok (.newarray .int, 2) := by decide +kernel
theorem dX0_init_19 : decode cX0_init 19 = .ok (.putfield 13, 3) := by decide +kernel
theorem dX0_init_22 : decode cX0_init 22 = .ok (.aload_n 0, 1) := by decide +kernel
theorem dX0_init_23 : decode cX0_init 23 = .ok (.sipush 600, 3) := by decide +kernel
theorem dX0_init_26 : decode cX0_init 26 = .ok (.newarray .int, 2) := by decide +kernel
theorem dX0_init_28 : decode cX0_init 28 = .ok (.putfield 16, 3) := by decide +kernel
theorem dX0_init_31 : decode cX0_init 31 = .ok (.aload_n 0, 1) := by decide +kernel
theorem dX0_init_32 : decode cX0_init 32 = .ok (.sipush 600, 3) := by decide +kernel
theorem dX0_init_35 : decode cX0_init 35 = .ok (.newarray .int, 2) := by decide +kernel
theorem dX0_init_37 : decode cX0_init 37 = .ok (.putfield 19, 3) := by decide +kernel
theorem dX0_init_40 : decode cX0_init 40 = .ok (.aload_n 0, 1) := by decide +kernel
theorem dX0_init_41 : decode cX0_init 41 = .ok (.sipush 600, 3) := by decide +kernel
theorem dX0_init_44 : decode cX0_init 44 = .ok (.newarray .boolean, 2) := by decide +kernel
theorem dX0_init_46 : decode cX0_init 46 = .ok (.putfield 22, 3) := by decide +kernel
theorem dX0_init_49 : decode cX0_init 49 = .ok (.aload_n 0, 1) := by decide +kernel
theorem dX0_init_50 : decode cX0_init 50 = .ok (.sipush 1200, 3) := by decide +kernel
theorem dX0_init_53 : decode cX0_init 53 = .ok (.newarray .int, 2) := by decide +kernel
theorem dX0_init_55 : decode cX0_init 55 = .ok (.putfield 26, 3) := by decide +kernel
theorem dX0_init_58 : decode cX0_init 58 = .ok (.aload_n 0, 1) := by decide +kernel
theorem dX0_init_59 : decode cX0_init 59 = .ok (.bipush 64, 2) := by decide +kernel
theorem dX0_init_61 : decode cX0_init 61 = .ok (.newarray .int, 2) := by decide +kernel
theorem dX0_init_63 : decode cX0_init 63 = .ok (.putfield 29, 3) := by decide +kernel
theorem dX0_init_66 : decode cX0_init 66 = .ok (.aload_n 0, 1) := by decide +kernel
theorem dX0_init_67 : decode cX0_init 67 = .ok (.bipush 64, 2) := by decide +kernel
theorem dX0_init_69 : decode cX0_init 69 = .ok (.newarray .int, 2) := by decide +kernel
theorem dX0_init_71 : decode cX0_init 71 = .ok (.putfield 32, 3) := by decide +kernel
theorem dX0_init_74 : decode cX0_init 74 = .ok (.aload_n 0, 1) := by decide +kernel
theorem dX0_init_75 : decode cX0_init 75 = .ok (.bipush 64, 2) := by decide +kernel
theorem dX0_init_77 : decode cX0_init 77 = .ok (.newarray .int, 2) := by decide +kernel
theorem dX0_init_79 : decode cX0_init 79 = .ok (.putfield 35, 3) := by decide +kernel
theorem dX0_init_82 : decode cX0_init 82 = .ok (.aload_n 0, 1) := by decide +kernel
theorem dX0_init_83 : decode cX0_init 83 = .ok (.sipush 600, 3) := by decide +kernel
theorem dX0_init_86 : decode cX0_init 86 = .ok (.newarray .int, 2) := by decide +kernel
theorem dX0_init_88 : decode cX0_init 88 = .ok (.putfield 38, 3) := by decide +kernel
theorem dX0_init_91 : decode cX0_init 91 = .ok (.aload_n 0, 1) := by decide +kernel
theorem dX0_init_92 : decode cX0_init 92 = .ok (.invokevirtual 41, 3) := by decide +kernel
theorem dX0_init_95 : decode cX0_init 95 = .ok (.return_, 1) := by decide +kernel
theorem dX0_makeEmpty_0 : decode cX0_makeEmpty 0 = .ok (.iconst 0, 1) := by decide +kernel
theorem dX0_makeEmpty_1 : decode cX0_makeEmpty 1 = .ok (.istore_n 1, 1) := by decide +kernel
theorem dX0_makeEmpty_2 : decode cX0_makeEmpty 2 = .ok (.iload_n 1, 1) := by decide +kernel
theorem dX0_makeEmpty_3 : decode cX0_makeEmpty 3 = .ok (.sipush 600, 3) := by decide +kernel
theorem dX0_makeEmpty_6 : decode cX0_makeEmpty 6 = .ok (.if_icmp .ge 16, 3) := by decide +kernel
theorem dX0_makeEmpty_9 : decode cX0_makeEmpty 9 = .ok (.aload_n 0, 1) := by decide +kernel
theorem dX0_makeEmpty_10 : decode cX0_makeEmpty 10 = .ok (.getfield 16, 3) := by decide +kernel
theorem dX0_makeEmpty_13 : decode cX0_makeEmpty 13 = .ok (.iload_n 1, 1) := by decide +kernel
theorem dX0_makeEmpty_14 : decode cX0_makeEmpty 14 = .ok (.iconst (-1), 1) := by decide +kernel
theorem dX0_makeEmpty_15 : decode cX0_makeEmpty 15 = .ok (.iastore, 1) := by decide +kernel
theorem dX0_makeEmpty_16 : decode cX0_makeEmpty 16 = .ok (.iinc 1 1, 3) := by decide +kernel
theorem dX0_makeEmpty_19 : decode cX0_makeEmpty 19 = .ok (.goto (-17), 3) := by decide +kernel
theorem dX0_makeEmpty_22 : decode cX0_makeEmpty 22 = .ok (.aload_n 0, 1) := by decide +kernel
theorem dX0_makeEmpty_23 : decode cX0_makeEmpty 23 = .ok (.iconst 0, 1) := by decide +kernel
theorem dX0_makeEmpty_24 : decode cX0_makeEmpty 24 = .ok (.putfield 55, 3) := by decide +kernel
theorem dX0_makeEmpty_27 : decode cX0_makeEmpty 27 = .ok (.aload_n 0, 1) := by decide +kernel
theorem dX0_makeEmpty_28 : decode cX0_makeEmpty 28 = .ok (.iconst 0, 1) := by decide +kernel
theorem dX0_makeEmpty_29 : decode cX0_makeEmpty 29 = .ok (.putfield 79, 3) := by decide +kernel
theorem dX0_makeEmpty_32 : decode cX0_makeEmpty 32 = .ok (.aload_n 0, 1) := by decide +kernel
theorem dX0_makeEmpty_33 : decode cX0_makeEmpty 33 = .ok (.iconst 0, 1) := by decide +kernel
theorem dX0_makeEmpty_34 : decode cX0_makeEmpty 34 = .ok (.putfield 106, 3) := by decide +kernel
theorem dX0_makeEmpty_37 : decode cX0_makeEmpty 37 = .ok (.aload_n 0, 1) := by decide +kernel
theorem dX0_makeEmpty_38 : decode cX0_makeEmpty 38 = .ok (.iconst 0, 1) := by decide +kernel
theorem dX0_makeEmpty_39 : decode cX0_makeEmpty 39 = .ok (.putfield 96, 3) := by decide +kernel
theorem dX0_makeEmpty_42 : decode cX0_makeEmpty 42 = .ok (.aload_n 0, 1) := by decide +kernel
theorem dX0_makeEmpty_43 : decode cX0_makeEmpty 43 = .ok (.iconst 0, 1) := by decide +kernel
theorem dX0_makeEmpty_44 : decode cX0_makeEmpty 44 = .ok (.putfield 66, 3) := by decide +kernel
theorem dX0_makeEmpty_47 : decode cX0_makeEmpty 47 = .ok (.aload_n 0, 1) := by decide +kernel
theorem dX0_makeEmpty_48 : decode cX0_makeEmpty 48 = .ok (.getfield 29, 3) := by decide +kernel
theorem dX0_makeEmpty_51 : decode cX0_makeEmpty 51 = .ok (.iconst 0, 1) := by decide +kernel
theorem dX0_makeEmpty_52 : decode cX0_makeEmpty 52 = .ok (.iconst (-1), 1) := by decide +kernel
theorem dX0_makeEmpty_53 : decode cX0_makeEmpty 53 = .ok (.iastore, 1) := by decide +kernel
theorem dX0_makeEmpty_54 : decode cX0_makeEmpty 54 = .ok (.aload_n 0, 1) := by decide +kernel
theorem dX0_makeEmpty_55 : decode cX0_makeEmpty 55 = .ok (.getfield 32, 3) := by decide +kernel
theorem dX0_makeEmpty_58 : decode cX0_makeEmpty 58 = .ok (.iconst 0, 1) := by decide +kernel
theorem dX0_makeEmpty_59 : decode cX0_makeEmpty 59 = .ok (.iconst 0, 1) := by decide +kernel
theorem dX0_makeEmpty_60 : decode cX0_makeEmpty 60 = .ok (.iastore, 1) := by decide +kernel
theorem dX0_makeEmpty_61 : decode cX0_makeEmpty 61 = .ok (.aload_n 0, 1) := by decide +kernel
theorem dX0_makeEmpty_62 : decode cX0_makeEmpty 62 = .ok (.getfield 35, 3) := by decide +kernel
theorem dX0_makeEmpty_65 : decode cX0_makeEmpty 65 = .ok (.iconst 0, 1) := by decide +kernel
theorem dX0_makeEmpty_66 : decode cX0_makeEmpty 66 = .ok (.iconst 0, 1) := by decide +kernel
theorem dX0_makeEmpty_67 : decode cX0_makeEmpty 67 = .ok (.iastore, 1) := by decide +kernel
theorem dX0_makeEmpty_68 : decode cX0_makeEmpty 68 = .ok (.aload_n 0, 1) := by decide +kernel
theorem dX0_makeEmpty_69 : decode cX0_makeEmpty 69 = .ok (.iconst 1, 1) := by decide +kernel
theorem dX0_makeEmpty_70 : decode cX0_makeEmpty 70 = .ok (.putfield 82, 3) := by decide +kernel
theorem dX0_makeEmpty_73 : decode cX0_makeEmpty 73 = .ok (.aload_n 0, 1) := by decide +kernel
theorem dX0_makeEmpty_74 : decode cX0_makeEmpty 74 = .ok (.iconst 0, 1) := by decide +kernel
theorem dX0_makeEmpty_75 : decode cX0_makeEmpty 75 = .ok (.putfield 51, 3) := by decide +kernel
theorem dX0_makeEmpty_78 : decode cX0_makeEmpty 78 = .ok (.return_, 1) := by decide +kernel
theorem dX0_begin_0 : decode cX0_begin 0 = .ok (.aload_n 0, 1) := by decide +kernel
theorem dX0_begin_1 : decode cX0_begin 1 = .ok (.invokevirtual 44, 3) := by decide +kernel
theorem dX0_begin_4 : decode cX0_begin 4 = .ok (.istore_n 2, 1) := by decide +kernel
theorem dX0_begin_5 : decode cX0_begin 5 = .ok (.iload_n 2, 1) := by decide +kernel
theorem dX0_begin_6 : decode cX0_begin 6 = .ok (.iconst (-1), 1) := by decide +kernel
theorem dX0_begin_7 : decode cX0_begin 7 = .ok (.if_icmp .eq 21, 3) := by decide +kernel
theorem dX0_begin_10 : decode cX0_begin 10 = .ok (.aload_n 0, 1) := by decide +kernel
theorem dX0_begin_11 : decode cX0_begin 11 = .ok (.invokevirtual 48, 3) := by decide +kernel
theorem dX0_begin_14 : decode cX0_begin 14 = .ok (.iconst 2, 1) := by decide +kernel
theorem dX0_begin_15 : decode cX0_begin 15 = .ok (.if_icmp .eq 13, 3) := by decide +kernel
theorem dX0_begin_18 : decode cX0_begin 18 = .ok (.aload_n 0, 1) := by decide +kernel
theorem dX0_begin_19 : decode cX0_begin 19 = .ok (.getfield 51, 3) := by decide +kernel
theorem dX0_begin_22 : decode cX0_begin 22 = .ok (.sipush 600, 3) := by decide +kernel
theorem dX0_begin_25 : decode cX0_begin 25 = .ok (.if_icmp .lt 5, 3) := by decide +kernel
theorem dX0_begin_28 : decode cX0_begin 28 = .ok (.iconst (-1), 1) := by decide +kernel
theorem dX0_begin_29 : decode cX0_begin 29 = .ok (.ireturn, 1) := by decide +kernel
theorem dX0_begin_30 : decode cX0_begin 30 = .ok (.aload_n 0, 1) := by decide +kernel
theorem dX0_begin_31 : decode cX0_begin 31 = .ok (.getfield 9, 3) := by decide +kernel
theorem dX0_begin_34 : decode cX0_begin 34 = .ok (.iload_n 2, 1) := by decide +kernel
theorem dX0_begin_35 : decode cX0_begin 35 = .ok (.iload_n 1, 1) := by decide +kernel
theorem dX0_begin_36 : decode cX0_begin 36 = .ok (.iastore, 1) := by decide +kernel
theorem dX0_begin_37 : decode cX0_begin 37 = .ok (.aload_n 0, 1) := by decide +kernel
theorem dX0_begin_38 : decode cX0_begin 38 = .ok (.getfield 13, 3) := by decide +kernel
theorem dX0_begin_41 : decode cX0_begin 41 = .ok (.iload_n 2, 1) := by decide +kernel
theorem dX0_begin_42 : decode cX0_begin 42 = .ok (.iconst 0, 1) := by decide +kernel
theorem dX0_begin_43 : decode cX0_begin 43 = .ok (.iastore, 1) := by decide +kernel
theorem dX0_begin_44 : decode cX0_begin 44 = .ok (.aload_n 0, 1) := by decide +kernel
theorem dX0_begin_45 : decode cX0_begin 45 = .ok (.getfield 19, 3) := by decide +kernel
theorem dX0_begin_48 : decode cX0_begin 48 = .ok (.iload_n 2, 1) := by decide +kernel
theorem dX0_begin_49 : decode cX0_begin 49 = .ok (.iconst (-1), 1) := by decide +kernel
theorem dX0_begin_50 : decode cX0_begin 50 = .ok (.iastore, 1) := by decide +kernel
theorem dX0_begin_51 : decode cX0_begin 51 = .ok (.aload_n 0, 1) := by decide +kernel
theorem dX0_begin_52 : decode cX0_begin 52 = .ok (.getfield 22, 3) := by decide +kernel
theorem dX0_begin_55 : decode cX0_begin 55 = .ok (.iload_n 2, 1) := by decide +kernel
theorem dX0_begin_56 : decode cX0_begin 56 = .ok (.iconst 0, 1) := by decide +kernel
theorem dX0_begin_57 : decode cX0_begin 57 = .ok (.bastore, 1) := by decide +kernel
theorem dX0_begin_58 : decode cX0_begin 58 = .ok (.aload_n 0, 1) := by decide +kernel
theorem dX0_begin_59 : decode cX0_begin 59 = .ok (.dup, 1) := by decide +kernel
theorem dX0_begin_60 : decode cX0_begin 60 = .ok (.getfield 55, 3) := by decide +kernel
theorem dX0_begin_63 : decode cX0_begin 63 = .ok (.iconst 1, 1) := by decide +kernel
theorem dX0_begin_64 : decode cX0_begin 64 = .ok (.iadd, 1) := by decide +kernel
theorem dX0_begin_65 : decode cX0_begin 65 = .ok (.putfield 55, 3) := by decide +kernel
theorem dX0_begin_68 : decode cX0_begin 68 = .ok (.aload_n 0, 1) := by decide +kernel
theorem dX0_begin_69 : decode cX0_begin 69 = .ok (.iconst 2, 1) := by decide +kernel
theorem dX0_begin_70 : decode cX0_begin 70 = .ok (.iload_n 2, 1) := by decide +kernel
theorem dX0_begin_71 : decode cX0_begin 71 = .ok (.imul, 1) := by decide +kernel
theorem dX0_begin_72 : decode cX0_begin 72 = .ok (.invokevirtual 58, 3) := by decide +kernel
theorem dX0_begin_75 : decode cX0_begin 75 = .ok (.aload_n 0, 1) := by decide +kernel
theorem dX0_begin_76 : decode cX0_begin 76 = .ok (.getfield 38, 3) := by decide +kernel
theorem dX0_begin_79 : decode cX0_begin 79 = .ok (.aload_n 0, 1) := by decide +kernel
theorem dX0_begin_80 : decode cX0_begin 80 = .ok (.getfield 51, 3) := by decide +kernel
theorem dX0_begin_83 : decode cX0_begin 83 = .ok (.iload_n 2, 1) := by decide +kernel
theorem dX0_begin_84 : decode cX0_begin 84 = .ok (.iastore, 1) := by decide +kernel
theorem dX0_begin_85 : decode cX0_begin 85 = .ok (.aload_n 0, 1) := by decide +kernel
theorem dX0_begin_86 : decode cX0_begin 86 = .ok (.dup, 1) := by decide +kernel
theorem dX0_begin_87 : decode cX0_begin 87 = .ok (.getfield 51, 3) := by decide +kernel
theorem dX0_begin_90 : decode cX0_begin 90 = .ok (.iconst 1, 1) := by decide +kernel
theorem dX0_begin_91 : decode cX0_begin 91 = .ok (.iadd, 1) := by decide +kernel
theorem dX0_begin_92 : decode cX0_begin 92 = .ok (.putfield 51, 3) := by decide +kernel
theorem dX0_begin_95 : decode cX0_begin 95 = .ok (.iload_n 2, 1) := by decide +kernel
theorem dX0_begin_96 : decode cX0_begin 96 = .ok (.ireturn, 1) := by decide +kernel
theorem dX0_leastFreeNumber_0 : decode cX0_leastFreeNumber 0 = .ok (.iconst 0, 1) := by decide +kernel
theorem dX0_leastFreeNumber_1 : decode cX0_leastFreeNumber 1 = .ok (.istore_n 1, 1) := by decide +kernel
theorem dX0_leastFreeNumber_2 : decode cX0_leastFreeNumber 2 = .ok (.iload_n 1, 1) := by decide +kernel
theorem dX0_leastFreeNumber_3 : decode cX0_leastFreeNumber 3 = .ok (.sipush 600, 3) := by decide +kernel
theorem dX0_leastFreeNumber_6 : decode cX0_leastFreeNumber 6 = .ok (.if_icmp .ge 21, 3) := by decide +kernel
theorem dX0_leastFreeNumber_9 : decode cX0_leastFreeNumber 9 = .ok (.aload_n 0, 1) := by decide +kernel
theorem dX0_leastFreeNumber_10 : decode cX0_leastFreeNumber 10 = .ok (.getfield 16, 3) := by decide +kernel
theorem dX0_leastFreeNumber_13 : decode cX0_leastFreeNumber 13 = .ok (.iload_n 1, 1) := by decide +kernel
theorem dX0_leastFreeNumber_14 : decode cX0_leastFreeNumber 14 = .ok (.iaload, 1) := by decide +kernel
theorem dX0_leastFreeNumber_15 : decode cX0_leastFreeNumber 15 = .ok (.iconst (-1), 1) := by decide +kernel
theorem dX0_leastFreeNumber_16 : decode cX0_leastFreeNumber 16 = .ok (.if_icmp .ne 5, 3) := by decide +kernel
theorem dX0_leastFreeNumber_19 : decode cX0_leastFreeNumber 19 = .ok (.iload_n 1, 1) := by decide +kernel
theorem dX0_leastFreeNumber_20 : decode cX0_leastFreeNumber 20 = .ok (.ireturn, 1) := by decide +kernel
theorem dX0_leastFreeNumber_21 : decode cX0_leastFreeNumber 21 = .ok (.iinc 1 1, 3) := by decide +kernel
theorem dX0_leastFreeNumber_24 : decode cX0_leastFreeNumber 24 = .ok (.goto (-22), 3) := by decide +kernel
theorem dX0_leastFreeNumber_27 : decode cX0_leastFreeNumber 27 = .ok (.iconst (-1), 1) := by decide +kernel
theorem dX0_leastFreeNumber_28 : decode cX0_leastFreeNumber 28 = .ok (.ireturn, 1) := by decide +kernel
theorem dX0_lastKind_0 : decode cX0_lastKind 0 = .ok (.aload_n 0, 1) := by decide +kernel
theorem dX0_lastKind_1 : decode cX0_lastKind 1 = .ok (.getfield 32, 3) := by decide +kernel
theorem dX0_lastKind_4 : decode cX0_lastKind 4 = .ok (.aload_n 0, 1) := by decide +kernel
theorem dX0_lastKind_5 : decode cX0_lastKind 5 = .ok (.getfield 82, 3) := by decide +kernel
theorem dX0_lastKind_8 : decode cX0_lastKind 8 = .ok (.iconst 1, 1) := by decide +kernel
theorem dX0_lastKind_9 : decode cX0_lastKind 9 = .ok (.isub, 1) := by decide +kernel
theorem dX0_lastKind_10 : decode cX0_lastKind 10 = .ok (.iaload, 1) := by decide +kernel
theorem dX0_lastKind_11 : decode cX0_lastKind 11 = .ok (.ireturn, 1) := by decide +kernel
theorem dX0_putAtCursor_0 : decode cX0_putAtCursor 0 = .ok (.aload_n 0, 1) := by decide +kernel
theorem dX0_putAtCursor_1 : decode cX0_putAtCursor 1 = .ok (.getfield 106, 3) := by decide +kernel
theorem dX0_putAtCursor_4 : decode cX0_putAtCursor 4 = .ok (.sipush 1200, 3) := by decide +kernel
theorem dX0_putAtCursor_7 : decode cX0_putAtCursor 7 = .ok (.if_icmp .lt 4, 3) := by decide +kernel
theorem dX0_putAtCursor_10 : decode cX0_putAtCursor 10 = .ok (.return_, 1) := by decide +kernel
theorem dX0_putAtCursor_11 : decode cX0_putAtCursor 11 = .ok (.aload_n 0, 1) := by decide +kernel
theorem dX0_putAtCursor_12 : decode cX0_putAtCursor 12 = .ok (.getfield 106, 3) := by decide +kernel
theorem dX0_putAtCursor_15 : decode cX0_putAtCursor 15 = .ok (.istore_n 2, 1) := by decide +kernel
theorem dX0_putAtCursor_16 : decode cX0_putAtCursor 16 = .ok (.iload_n 2, 1) := by decide +kernel
theorem dX0_putAtCursor_17 : decode cX0_putAtCursor 17 = .ok (.aload_n 0, 1) := by decide +kernel
theorem dX0_putAtCursor_18 : decode cX0_putAtCursor 18 = .ok (.getfield 96, 3) := by decide +kernel
theorem dX0_putAtCursor_21 : decode cX0_putAtCursor 21 = .ok (.if_icmp .le 22, 3) := by decide +kernel
theorem dX0_putAtCursor_24 : decode cX0_putAtCursor 24 = .ok (.aload_n 0, 1) := by decide +kernel
theorem dX0_putAtCursor_25 : decode cX0_putAtCursor 25 = .ok (.aload_n 0, 1) := by decide +kernel
theorem dX0_putAtCursor_26 : decode cX0_putAtCursor 26 = .ok (.getfield 26, 3) := by decide +kernel
theorem dX0_putAtCursor_29 : decode cX0_putAtCursor 29 = .ok (.iload_n 2, 1) := by decide +kernel
theorem dX0_putAtCursor_30 : decode cX0_putAtCursor 30 = .ok (.iconst 1, 1) := by decide +kernel
theorem dX0_putAtCursor_31 : decode cX0_putAtCursor 31 = .ok (.isub, 1) := by decide +kernel
theorem dX0_putAtCursor_32 : decode cX0_putAtCursor 32 = .ok (.iaload, 1) := by decide +kernel
theorem dX0_putAtCursor_33 : decode cX0_putAtCursor 33 = .ok (.iload_n 2, 1) := by decide +kernel
theorem dX0_putAtCursor_34 : decode cX0_putAtCursor 34 = .ok (.invokevirtual 133, 3) := by decide +kernel
theorem dX0_putAtCursor_37 : decode cX0_putAtCursor 37 = .ok (.iinc 2 (-1), 3) := by decide +kernel
theorem dX0_putAtCursor_40 : decode cX0_putAtCursor 40 = .ok (.goto (-24), 3) := by decide +kernel
theorem dX0_putAtCursor_43 : decode cX0_putAtCursor 43 = .ok (.aload_n 0, 1) := by decide +kernel
theorem dX0_putAtCursor_44 : decode cX0_putAtCursor 44 = .ok (.iload_n 1, 1) := by decide +kernel
theorem dX0_putAtCursor_45 : decode cX0_putAtCursor 45 = .ok (.aload_n 0, 1) := by decide +kernel
theorem dX0_putAtCursor_46 : decode cX0_putAtCursor 46 = .ok (.getfield 96, 3) := by decide +kernel
theorem dX0_putAtCursor_49 : decode cX0_putAtCursor 49 = .ok (.invokevirtual 133, 3) := by decide +kernel
theorem dX0_putAtCursor_52 : decode cX0_putAtCursor 52 = .ok (.aload_n 0, 1) := by decide +kernel
theorem dX0_putAtCursor_53 : decode cX0_putAtCursor 53 = .ok (.dup, 1) := by decide +kernel
theorem dX0_putAtCursor_54 : decode cX0_putAtCursor 54 = .ok (.getfield 106, 3) := by decide +kernel
theorem dX0_putAtCursor_57 : decode cX0_putAtCursor 57 = .ok (.iconst 1, 1) := by decide +kernel
theorem dX0_putAtCursor_58 : decode cX0_putAtCursor 58 = .ok (.iadd, 1) := by decide +kernel
theorem dX0_putAtCursor_59 : decode cX0_putAtCursor 59 = .ok (.putfield 106, 3) := by decide +kernel
theorem dX0_putAtCursor_62 : decode cX0_putAtCursor 62 = .ok (.aload_n 0, 1) := by decide +kernel
theorem dX0_putAtCursor_63 : decode cX0_putAtCursor 63 = .ok (.dup, 1) := by decide +kernel
theorem dX0_putAtCursor_64 : decode cX0_putAtCursor 64 = .ok (.getfield 96, 3) := by decide +kernel
theorem dX0_putAtCursor_67 : decode cX0_putAtCursor 67 = .ok (.iconst 1, 1) := by decide +kernel
theorem dX0_putAtCursor_68 : decode cX0_putAtCursor 68 = .ok (.iadd, 1) := by decide +kernel
theorem dX0_putAtCursor_69 : decode cX0_putAtCursor 69 = .ok (.putfield 96, 3) := by decide +kernel
theorem dX0_putAtCursor_72 : decode cX0_putAtCursor 72 = .ok (.return_, 1) := by decide +kernel
theorem dX0_setPlace_0 : decode cX0_setPlace 0 = .ok (.aload_n 0, 1) := by decide +kernel
theorem dX0_setPlace_1 : decode cX0_setPlace 1 = .ok (.getfield 26, 3) := by decide +kernel
theorem dX0_setPlace_4 : decode cX0_setPlace 4 = .ok (.iload_n 2, 1) := by decide +kernel
theorem dX0_setPlace_5 : decode cX0_setPlace 5 = .ok (.iload_n 1, 1) := by decide +kernel
theorem dX0_setPlace_6 : decode cX0_setPlace 6 = .ok (.iastore, 1) := by decide +kernel
theorem dX0_setPlace_7 : decode cX0_setPlace 7 = .ok (.iload_n 1, 1) := by decide +kernel
theorem dX0_setPlace_8 : decode cX0_setPlace 8 = .ok (.invokestatic 130, 3) := by decide +kernel
theorem dX0_setPlace_11 : decode cX0_setPlace 11 = .ok (.ifCond .eq 15, 3) := by decide +kernel
theorem dX0_setPlace_14 : decode cX0_setPlace 14 = .ok (.aload_n 0, 1) := by decide +kernel
theorem dX0_setPlace_15 : decode cX0_setPlace 15 = .ok (.getfield 16, 3) := by decide +kernel
theorem dX0_setPlace_18 : decode cX0_setPlace 18 = .ok (.iload_n 1, 1) := by decide +kernel
theorem dX0_setPlace_19 : decode cX0_setPlace 19 = .ok (.iconst 2, 1) := by decide +kernel
theorem dX0_setPlace_20 : decode cX0_setPlace 20 = .ok (.idiv, 1) := by decide +kernel
theorem dX0_setPlace_21 : decode cX0_setPlace 21 = .ok (.iload_n 2, 1) := by decide +kernel
theorem dX0_setPlace_22 : decode cX0_setPlace 22 = .ok (.iastore, 1) := by decide +kernel
theorem dX0_setPlace_23 : decode cX0_setPlace 23 = .ok (.goto 12, 3) := by decide +kernel
theorem dX0_setPlace_26 : decode cX0_setPlace 26 = .ok (.aload_n 0, 1) := by decide +kernel
theorem dX0_setPlace_27 : decode cX0_setPlace 27 = .ok (.getfield 19, 3) := by decide +kernel
theorem dX0_setPlace_30 : decode cX0_setPlace 30 = .ok (.iload_n 1, 1) := by decide +kernel
theorem dX0_setPlace_31 : decode cX0_setPlace 31 = .ok (.iconst 2, 1) := by decide +kernel
theorem dX0_setPlace_32 : decode cX0_setPlace 32 = .ok (.idiv, 1) := by decide +kernel
theorem dX0_setPlace_33 : decode cX0_setPlace 33 = .ok (.iload_n 2, 1) := by decide +kernel
theorem dX0_setPlace_34 : decode cX0_setPlace 34 = .ok (.iastore, 1) := by decide +kernel
theorem dX0_setPlace_35 : decode cX0_setPlace 35 = .ok (.return_, 1) := by decide +kernel
theorem dX0_isStart_0 : decode cX0_isStart 0 = .ok (.iload_n 0, 1) := by decide +kernel
theorem dX0_isStart_1 : decode cX0_isStart 1 = .ok (.iconst 2, 1) := by decide +kernel
theorem dX0_isStart_2 : decode cX0_isStart 2 = .ok (.irem, 1) := by decide +kernel
theorem dX0_isStart_3 : decode cX0_isStart 3 = .ok (.ifCond .ne 7, 3) := by decide +kernel
theorem dX0_isStart_6 : decode cX0_isStart 6 = .ok (.iconst 1, 1) := by decide +kernel
theorem dX0_isStart_7 : decode cX0_isStart 7 = .ok (.goto 4, 3) := by decide +kernel
theorem dX0_isStart_10 : decode cX0_isStart 10 = .ok (.iconst 0, 1) := by decide +kernel
theorem dX0_isStart_11 : decode cX0_isStart 11 = .ok (.ireturn, 1) := by decide +kernel
theorem dX0_end_0 : decode cX0_end 0 = .ok (.aload_n 0, 1) := by decide +kernel
theorem dX0_end_1 : decode cX0_end 1 = .ok (.invokevirtual 62, 3) := by decide +kernel
theorem dX0_end_4 : decode cX0_end 4 = .ok (.istore_n 1, 1) := by decide +kernel
theorem dX0_end_5 : decode cX0_end 5 = .ok (.iload_n 1, 1) := by decide +kernel
theorem dX0_end_6 : decode cX0_end 6 = .ok (.iconst (-1), 1) := by decide +kernel
theorem dX0_end_7 : decode cX0_end 7 = .ok (.if_icmp .ne 5, 3) := by decide +kernel
theorem dX0_end_10 : decode cX0_end 10 = .ok (.iconst (-1), 1) := by decide +kernel
theorem dX0_end_11 : decode cX0_end 11 = .ok (.ireturn, 1) := by decide +kernel
theorem dX0_end_12 : decode cX0_end 12 = .ok (.aload_n 0, 1) := by decide +kernel
theorem dX0_end_13 : decode cX0_end 13 = .ok (.iconst 2, 1) := by decide +kernel
theorem dX0_end_14 : decode cX0_end 14 = .ok (.iload_n 1, 1) := by decide +kernel
theorem dX0_end_15 : decode cX0_end 15 = .ok (.imul, 1) := by decide +kernel
theorem dX0_end_16 : decode cX0_end 16 = .ok (.iconst 1, 1) := by decide +kernel
theorem dX0_end_17 : decode cX0_end 17 = .ok (.iadd, 1) := by decide +kernel
theorem dX0_end_18 : decode cX0_end 18 = .ok (.invokevirtual 58, 3) := by decide +kernel
theorem dX0_end_21 : decode cX0_end 21 = .ok (.aload_n 0, 1) := by decide +kernel
theorem dX0_end_22 : decode cX0_end 22 = .ok (.dup, 1) := by decide +kernel
theorem dX0_end_23 : decode cX0_end 23 = .ok (.getfield 51, 3) := by decide +kernel
theorem dX0_end_26 : decode cX0_end 26 = .ok (.iconst 1, 1) := by decide +kernel
theorem dX0_end_27 : decode cX0_end 27 = .ok (.isub, 1) := by decide +kernel
theorem dX0_end_28 : decode cX0_end 28 = .ok (.putfield 51, 3) := by decide +kernel
theorem dX0_end_31 : decode cX0_end 31 = .ok (.iload_n 1, 1) := by decide +kernel
theorem dX0_end_32 : decode cX0_end 32 = .ok (.ireturn, 1) := by decide +kernel
theorem dX0_lastOpen_0 : decode cX0_lastOpen 0 = .ok (.aload_n 0, 1) := by decide +kernel
theorem dX0_lastOpen_1 : decode cX0_lastOpen 1 = .ok (.getfield 51, 3) := by decide +kernel
theorem dX0_lastOpen_4 : decode cX0_lastOpen 4 = .ok (.aload_n 0, 1) := by decide +kernel
theorem dX0_lastOpen_5 : decode cX0_lastOpen 5 = .ok (.getfield 35, 3) := by decide +kernel
theorem dX0_lastOpen_8 : decode cX0_lastOpen 8 = .ok (.aload_n 0, 1) := by decide +kernel
theorem dX0_lastOpen_9 : decode cX0_lastOpen 9 = .ok (.getfield 82, 3) := by decide +kernel
theorem dX0_lastOpen_12 : decode cX0_lastOpen 12 = .ok (.iconst 1, 1) := by decide +kernel
theorem dX0_lastOpen_13 : decode cX0_lastOpen 13 = .ok (.isub, 1) := by decide +kernel
theorem dX0_lastOpen_14 : decode cX0_lastOpen 14 = .ok (.iaload, 1) := by decide +kernel
theorem dX0_lastOpen_15 : decode cX0_lastOpen 15 = .ok (.if_icmp .le 17, 3) := by decide +kernel
theorem dX0_lastOpen_18 : decode cX0_lastOpen 18 = .ok (.aload_n 0, 1) := by decide +kernel
theorem dX0_lastOpen_19 : decode cX0_lastOpen 19 = .ok (.getfield 38, 3) := by decide +kernel
theorem dX0_lastOpen_22 : decode cX0_lastOpen 22 = .ok (.aload_n 0, 1) := by decide +kernel
theorem dX0_lastOpen_23 : decode cX0_lastOpen 23 = .ok (.getfield 51, 3) := by decide +kernel
theorem dX0_lastOpen_26 : decode cX0_lastOpen 26 = .ok (.iconst 1, 1) := by decide +kernel
theorem dX0_lastOpen_27 : decode cX0_lastOpen 27 = .ok (.isub, 1) := by decide +kernel
theorem dX0_lastOpen_28 : decode cX0_lastOpen 28 = .ok (.iaload, 1) := by decide +kernel
theorem dX0_lastOpen_29 : decode cX0_lastOpen 29 = .ok (.goto 4, 3) := by decide +kernel
theorem dX0_lastOpen_32 : decode cX0_lastOpen 32 = .ok (.iconst (-1), 1) := by decide +kernel
theorem dX0_lastOpen_33 : decode cX0_lastOpen 33 = .ok (.ireturn, 1) := by decide +kernel
theorem dX0_weigh_0 : decode cX0_weigh 0 = .ok (.iload_n 1, 1) := by decide +kernel
theorem dX0_weigh_1 : decode cX0_weigh 1 = .ok (.ifCond .lt 22, 3) := by decide +kernel
theorem dX0_weigh_4 : decode cX0_weigh 4 = .ok (.aload_n 0, 1) := by decide +kernel
theorem dX0_weigh_5 : decode cX0_weigh 5 = .ok (.invokevirtual 48, 3) := by decide +kernel
theorem dX0_weigh_8 : decode cX0_weigh 8 = .ok (.iconst 2, 1) := by decide +kernel
theorem dX0_weigh_9 : decode cX0_weigh 9 = .ok (.if_icmp .eq 14, 3) := by decide +kernel
theorem dX0_weigh_12 : decode cX0_weigh 12 = .ok (.iload_n 1, 1) := by decide +kernel
theorem dX0_weigh_13 : decode cX0_weigh 13 = .ok (.ldc 65, 2) := by decide +kernel
theorem dX0_weigh_15 : decode cX0_weigh 15 = .ok (.aload_n 0, 1) := by decide +kernel
theorem dX0_weigh_16 : decode cX0_weigh 16 = .ok (.getfield 66, 3) := by decide +kernel
theorem dX0_weigh_19 : decode cX0_weigh 19 = .ok (.isub, 1) := by decide +kernel
theorem dX0_weigh_20 : decode cX0_weigh 20 = .ok (.if_icmp .le 5, 3) := by decide +kernel
theorem dX0_weigh_23 : decode cX0_weigh 23 = .ok (.iconst 0, 1) := by decide +kernel
theorem dX0_weigh_24 : decode cX0_weigh 24 = .ok (.ireturn, 1) := by decide +kernel
theorem dX0_weigh_25 : decode cX0_weigh 25 = .ok (.aload_n 0, 1) := by decide +kernel
theorem dX0_weigh_26 : decode cX0_weigh 26 = .ok (.invokevirtual 62, 3) := by decide +kernel
theorem dX0_weigh_29 : decode cX0_weigh 29 = .ok (.istore_n 2, 1) := by decide +kernel
theorem dX0_weigh_30 : decode cX0_weigh 30 = .ok (.iload_n 2, 1) := by decide +kernel
theorem dX0_weigh_31 : decode cX0_weigh 31 = .ok (.iconst (-1), 1) := by decide +kernel
theorem dX0_weigh_32 : decode cX0_weigh 32 = .ok (.if_icmp .ne 8, 3) := by decide +kernel
theorem dX0_weigh_35 : decode cX0_weigh 35 = .ok (.aload_n 0, 1) := by decide +kernel
theorem dX0_weigh_36 : decode cX0_weigh 36 = .ok (.invokevirtual 69, 3) := by decide +kernel
theorem dX0_weigh_39 : decode cX0_weigh 39 = .ok (.istore_n 2, 1) := by decide +kernel
theorem dX0_weigh_40 : decode cX0_weigh 40 = .ok (.iload_n 2, 1) := by decide +kernel
theorem dX0_weigh_41 : decode cX0_weigh 41 = .ok (.iconst (-1), 1) := by decide +kernel
theorem dX0_weigh_42 : decode cX0_weigh 42 = .ok (.if_icmp .eq 13, 3) := by decide +kernel
theorem dX0_weigh_45 : decode cX0_weigh 45 = .ok (.aload_n 0, 1) := by decide +kernel
theorem dX0_weigh_46 : decode cX0_weigh 46 = .ok (.getfield 13, 3) := by decide +kernel
theorem dX0_weigh_49 : decode cX0_weigh 49 = .ok (.iload_n 2, 1) := by decide +kernel
theorem dX0_weigh_50 : decode cX0_weigh 50 = .ok (.dup2, 1) := by decide +kernel
theorem dX0_weigh_51 : decode cX0_weigh 51 = .ok (.iaload, 1) := by decide +kernel
theorem dX0_weigh_52 : decode cX0_weigh 52 = .ok (.iload_n 1, 1) := by decide +kernel
theorem dX0_weigh_53 : decode cX0_weigh 53 = .ok (.iadd, 1) := by decide +kernel
theorem dX0_weigh_54 : decode cX0_weigh 54 = .ok (.iastore, 1) := by decide +kernel
theorem dX0_weigh_55 : decode cX0_weigh 55 = .ok (.aload_n 0, 1) := by decide +kernel
theorem dX0_weigh_56 : decode cX0_weigh 56 = .ok (.dup, 1) := by decide +kernel
theorem dX0_weigh_57 : decode cX0_weigh 57 = .ok (.getfield 66, 3) := by decide +kernel
theorem dX0_weigh_60 : decode cX0_weigh 60 = .ok (.iload_n 1, 1) := by decide +kernel
theorem dX0_weigh_61 : decode cX0_weigh 61 = .ok (.iadd, 1) := by decide +kernel
theorem dX0_weigh_62 : decode cX0_weigh 62 = .ok (.putfield 66, 3) := by decide +kernel
theorem dX0_weigh_65 : decode cX0_weigh 65 = .ok (.iconst 1, 1) := by decide +kernel
theorem dX0_weigh_66 : decode cX0_weigh 66 = .ok (.ireturn, 1) := by decide +kernel
theorem dX0_lastInterval_0 : decode cX0_lastInterval 0 = .ok (.aload_n 0, 1) := by decide +kernel
theorem dX0_lastInterval_1 : decode cX0_lastInterval 1 = .ok (.getfield 29, 3) := by decide +kernel
theorem dX0_lastInterval_4 : decode cX0_lastInterval 4 = .ok (.aload_n 0, 1) := by decide +kernel
theorem dX0_lastInterval_5 : decode cX0_lastInterval 5 = .ok (.getfield 82, 3) := by decide +kernel
theorem dX0_lastInterval_8 : decode cX0_lastInterval 8 = .ok (.iconst 1, 1) := by decide +kernel
theorem dX0_lastInterval_9 : decode cX0_lastInterval 9 = .ok (.isub, 1) := by decide +kernel
theorem dX0_lastInterval_10 : decode cX0_lastInterval 10 = .ok (.iaload, 1) := by decide +kernel
theorem dX0_lastInterval_11 : decode cX0_lastInterval 11 = .ok (.ireturn, 1) := by decide +kernel
theorem dX0_stale_0 : decode cX0_stale 0 = .ok (.aload_n 0, 1) := by decide +kernel
theorem dX0_stale_1 : decode cX0_stale 1 = .ok (.iload_n 1, 1) := by decide +kernel
theorem dX0_stale_2 : decode cX0_stale 2 = .ok (.invokevirtual 72, 3) := by decide +kernel
theorem dX0_stale_5 : decode cX0_stale 5 = .ok (.ifCond .eq 20, 3) := by decide +kernel
theorem dX0_stale_8 : decode cX0_stale 8 = .ok (.aload_n 0, 1) := by decide +kernel
theorem dX0_stale_9 : decode cX0_stale 9 = .ok (.iload_n 1, 1) := by decide +kernel
theorem dX0_stale_10 : decode cX0_stale 10 = .ok (.invokevirtual 76, 3) := by decide +kernel
theorem dX0_stale_13 : decode cX0_stale 13 = .ok (.ifCond .eq 12, 3) := by decide +kernel
theorem dX0_stale_16 : decode cX0_stale 16 = .ok (.aload_n 0, 1) := by decide +kernel
theorem dX0_stale_17 : decode cX0_stale 17 = .ok (.getfield 22, 3) := by decide +kernel
theorem dX0_stale_20 : decode cX0_stale 20 = .ok (.iload_n 1, 1) := by decide +kernel
theorem dX0_stale_21 : decode cX0_stale 21 = .ok (.baload, 1) := by decide +kernel
theorem dX0_stale_22 : decode cX0_stale 22 = .ok (.ifCond .eq 5, 3) := by decide +kernel
theorem dX0_stale_25 : decode cX0_stale 25 = .ok (.iconst 0, 1) := by decide +kernel
theorem dX0_stale_26 : decode cX0_stale 26 = .ok (.ireturn, 1) := by decide +kernel
theorem dX0_stale_27 : decode cX0_stale 27 = .ok (.aload_n 0, 1) := by decide +kernel
theorem dX0_stale_28 : decode cX0_stale 28 = .ok (.getfield 22, 3) := by decide +kernel
theorem dX0_stale_31 : decode cX0_stale 31 = .ok (.iload_n 1, 1) := by decide +kernel
theorem dX0_stale_32 : decode cX0_stale 32 = .ok (.iconst 1, 1) := by decide +kernel
theorem dX0_stale_33 : decode cX0_stale 33 = .ok (.bastore, 1) := by decide +kernel
theorem dX0_stale_34 : decode cX0_stale 34 = .ok (.aload_n 0, 1) := by decide +kernel
theorem dX0_stale_35 : decode cX0_stale 35 = .ok (.dup, 1) := by decide +kernel
theorem dX0_stale_36 : decode cX0_stale 36 = .ok (.getfield 79, 3) := by decide +kernel
theorem dX0_stale_39 : decode cX0_stale 39 = .ok (.iconst 1, 1) := by decide +kernel
theorem dX0_stale_40 : decode cX0_stale 40 = .ok (.iadd, 1) := by decide +kernel
theorem dX0_stale_41 : decode cX0_stale 41 = .ok (.putfield 79, 3) := by decide +kernel
theorem dX0_stale_44 : decode cX0_stale 44 = .ok (.iconst 1, 1) := by decide +kernel
theorem dX0_stale_45 : decode cX0_stale 45 = .ok (.ireturn, 1) := by decide +kernel
theorem dX0_isThere_0 : decode cX0_isThere 0 = .ok (.iload_n 1, 1) := by decide +kernel
theorem dX0_isThere_1 : decode cX0_isThere 1 = .ok (.ifCond .lt 24, 3) := by decide +kernel
theorem dX0_isThere_4 : decode cX0_isThere 4 = .ok (.iload_n 1, 1) := by decide +kernel
theorem dX0_isThere_5 : decode cX0_isThere 5 = .ok (.sipush 600, 3) := by decide +kernel
theorem dX0_isThere_8 : decode cX0_isThere 8 = .ok (.if_icmp .ge 17, 3) := by decide +kernel
theorem dX0_isThere_11 : decode cX0_isThere 11 = .ok (.aload_n 0, 1) := by decide +kernel
theorem dX0_isThere_12 : decode cX0_isThere 12 = .ok (.getfield 16, 3) := by decide +kernel
theorem dX0_isThere_15 : decode cX0_isThere 15 = .ok (.iload_n 1, 1) := by decide +kernel
theorem dX0_isThere_16 : decode cX0_isThere 16 = .ok (.iaload, 1) := by decide +kernel
theorem dX0_isThere_17 : decode cX0_isThere 17 = .ok (.iconst (-1), 1) := by decide +kernel
theorem dX0_isThere_18 : decode cX0_isThere 18 = .ok (.if_icmp .eq 7, 3) := by decide +kernel
theorem dX0_isThere_21 : decode cX0_isThere 21 = .ok (.iconst 1, 1) := by decide +kernel
theorem dX0_isThere_22 : decode cX0_isThere 22 = .ok (.goto 4, 3) := by decide +kernel
theorem dX0_isThere_25 : decode cX0_isThere 25 = .ok (.iconst 0, 1) := by decide +kernel
theorem dX0_isThere_26 : decode cX0_isThere 26 = .ok (.ireturn, 1) := by decide +kernel
theorem dX0_isEnded_0 : decode cX0_isEnded 0 = .ok (.aload_n 0, 1) := by decide +kernel
theorem dX0_isEnded_1 : decode cX0_isEnded 1 = .ok (.getfield 19, 3) := by decide +kernel
theorem dX0_isEnded_4 : decode cX0_isEnded 4 = .ok (.iload_n 1, 1) := by decide +kernel
theorem dX0_isEnded_5 : decode cX0_isEnded 5 = .ok (.iaload, 1) := by decide +kernel
theorem dX0_isEnded_6 : decode cX0_isEnded 6 = .ok (.iconst (-1), 1) := by decide +kernel
theorem dX0_isEnded_7 : decode cX0_isEnded 7 = .ok (.if_icmp .eq 7, 3) := by decide +kernel
theorem dX0_isEnded_10 : decode cX0_isEnded 10 = .ok (.iconst 1, 1) := by decide +kernel
theorem dX0_isEnded_11 : decode cX0_isEnded 11 = .ok (.goto 4, 3) := by decide +kernel
theorem dX0_isEnded_14 : decode cX0_isEnded 14 = .ok (.iconst 0, 1) := by decide +kernel
theorem dX0_isEnded_15 : decode cX0_isEnded 15 = .ok (.ireturn, 1) := by decide +kernel
theorem dX0_resume_0 : decode cX0_resume 0 = .ok (.aload_n 0, 1) := by decide +kernel
theorem dX0_resume_1 : decode cX0_resume 1 = .ok (.invokevirtual 48, 3) := by decide +kernel
theorem dX0_resume_4 : decode cX0_resume 4 = .ok (.iconst 1, 1) := by decide +kernel
theorem dX0_resume_5 : decode cX0_resume 5 = .ok (.if_icmp .eq 20, 3) := by decide +kernel
theorem dX0_resume_8 : decode cX0_resume 8 = .ok (.aload_n 0, 1) := by decide +kernel
theorem dX0_resume_9 : decode cX0_resume 9 = .ok (.invokevirtual 62, 3) := by decide +kernel
theorem dX0_resume_12 : decode cX0_resume 12 = .ok (.iconst (-1), 1) := by decide +kernel
theorem dX0_resume_13 : decode cX0_resume 13 = .ok (.if_icmp .ne 12, 3) := by decide +kernel
theorem dX0_resume_16 : decode cX0_resume 16 = .ok (.aload_n 0, 1) := by decide +kernel
theorem dX0_resume_17 : decode cX0_resume 17 = .ok (.getfield 82, 3) := by decide +kernel
theorem dX0_resume_20 : decode cX0_resume 20 = .ok (.bipush 64, 2) := by decide +kernel
theorem dX0_resume_22 : decode cX0_resume 22 = .ok (.if_icmp .lt 5, 3) := by decide +kernel
theorem dX0_resume_25 : decode cX0_resume 25 = .ok (.iconst (-1), 1) := by decide +kernel
theorem dX0_resume_26 : decode cX0_resume 26 = .ok (.ireturn, 1) := by decide +kernel
theorem dX0_resume_27 : decode cX0_resume 27 = .ok (.aload_n 0, 1) := by decide +kernel
theorem dX0_resume_28 : decode cX0_resume 28 = .ok (.invokevirtual 85, 3) := by decide +kernel
theorem dX0_resume_31 : decode cX0_resume 31 = .ok (.istore_n 1, 1) := by decide +kernel
theorem dX0_resume_32 : decode cX0_resume 32 = .ok (.iload_n 1, 1) := by decide +kernel
theorem dX0_resume_33 : decode cX0_resume 33 = .ok (.iconst (-1), 1) := by decide +kernel
theorem dX0_resume_34 : decode cX0_resume 34 = .ok (.if_icmp .ne 5, 3) := by decide +kernel
theorem dX0_resume_37 : decode cX0_resume 37 = .ok (.iconst (-1), 1) := by decide +kernel
theorem dX0_resume_38 : decode cX0_resume 38 = .ok (.ireturn, 1) := by decide +kernel
theorem dX0_resume_39 : decode cX0_resume 39 = .ok (.aload_n 0, 1) := by decide +kernel
theorem dX0_resume_40 : decode cX0_resume 40 = .ok (.getfield 22, 3) := by decide +kernel
theorem dX0_resume_43 : decode cX0_resume 43 = .ok (.iload_n 1, 1) := by decide +kernel
theorem dX0_resume_44 : decode cX0_resume 44 = .ok (.iconst 0, 1) := by decide +kernel
theorem dX0_resume_45 : decode cX0_resume 45 = .ok (.bastore, 1) := by decide +kernel
theorem dX0_resume_46 : decode cX0_resume 46 = .ok (.aload_n 0, 1) := by decide +kernel
theorem dX0_resume_47 : decode cX0_resume 47 = .ok (.dup, 1) := by decide +kernel
theorem dX0_resume_48 : decode cX0_resume 48 = .ok (.getfield 79, 3) := by decide +kernel
theorem dX0_resume_51 : decode cX0_resume 51 = .ok (.iconst 1, 1) := by decide +kernel
theorem dX0_resume_52 : decode cX0_resume 52 = .ok (.isub, 1) := by decide +kernel
theorem dX0_resume_53 : decode cX0_resume 53 = .ok (.putfield 79, 3) := by decide +kernel
theorem dX0_resume_56 : decode cX0_resume 56 = .ok (.aload_n 0, 1) := by decide +kernel
theorem dX0_resume_57 : decode cX0_resume 57 = .ok (.dup, 1) := by decide +kernel
theorem dX0_resume_58 : decode cX0_resume 58 = .ok (.getfield 66, 3) := by decide +kernel
theorem dX0_resume_61 : decode cX0_resume 61 = .ok (.aload_n 0, 1) := by decide +kernel
theorem dX0_resume_62 : decode cX0_resume 62 = .ok (.getfield 13, 3) := by decide +kernel
theorem dX0_resume_65 : decode cX0_resume 65 = .ok (.iload_n 1, 1) := by decide +kernel
theorem dX0_resume_66 : decode cX0_resume 66 = .ok (.iaload, 1) := by decide +kernel
theorem dX0_resume_67 : decode cX0_resume 67 = .ok (.isub, 1) := by decide +kernel
theorem dX0_resume_68 : decode cX0_resume 68 = .ok (.putfield 66, 3) := by decide +kernel
theorem dX0_resume_71 : decode cX0_resume 71 = .ok (.aload_n 0, 1) := by decide +kernel
theorem dX0_resume_72 : decode cX0_resume 72 = .ok (.getfield 13, 3) := by decide +kernel
theorem dX0_resume_75 : decode cX0_resume 75 = .ok (.iload_n 1, 1) := by decide +kernel
theorem dX0_resume_76 : decode cX0_resume 76 = .ok (.iconst 0, 1) := by decide +kernel
theorem dX0_resume_77 : decode cX0_resume 77 = .ok (.iastore, 1) := by decide +kernel
theorem dX0_resume_78 : decode cX0_resume 78 = .ok (.aload_n 0, 1) := by decide +kernel
theorem dX0_resume_79 : decode cX0_resume 79 = .ok (.iload_n 1, 1) := by decide +kernel
theorem dX0_resume_80 : decode cX0_resume 80 = .ok (.iconst 1, 1) := by decide +kernel
theorem dX0_resume_81 : decode cX0_resume 81 = .ok (.invokevirtual 88, 3) := by decide +kernel
theorem dX0_resume_84 : decode cX0_resume 84 = .ok (.iload_n 1, 1) := by decide +kernel
theorem dX0_resume_85 : decode cX0_resume 85 = .ok (.ireturn, 1) := by decide +kernel
theorem dX0_firstStaleAhead_0 : decode cX0_firstStaleAhead 0 = .ok (.aload_n 0, 1) := by decide +kernel
theorem dX0_firstStaleAhead_1 : decode cX0_firstStaleAhead 1 = .ok (.invokevirtual 127, 3) := by decide +kernel
theorem dX0_firstStaleAhead_4 : decode cX0_firstStaleAhead 4 = .ok (.istore_n 1, 1) := by decide +kernel
theorem dX0_firstStaleAhead_5 : decode cX0_firstStaleAhead 5 = .ok (.aload_n 0, 1) := by decide +kernel
theorem dX0_firstStaleAhead_6 : decode cX0_firstStaleAhead 6 = .ok (.getfield 96, 3) := by decide +kernel
theorem dX0_firstStaleAhead_9 : decode cX0_firstStaleAhead 9 = .ok (.istore_n 2, 1) := by decide +kernel
theorem dX0_firstStaleAhead_10 : decode cX0_firstStaleAhead 10 = .ok (.iload_n 2, 1) := by decide +kernel
theorem dX0_firstStaleAhead_11 : decode cX0_firstStaleAhead 11 = .ok (.iload_n 1, 1) := by decide +kernel
theorem dX0_firstStaleAhead_12 : decode cX0_firstStaleAhead 12 = .ok (.if_icmp .ge 46, 3) := by decide +kernel
theorem dX0_firstStaleAhead_15 : decode cX0_firstStaleAhead 15 = .ok (.aload_n 0, 1) := by decide +kernel
theorem dX0_firstStaleAhead_16 : decode cX0_firstStaleAhead 16 = .ok (.getfield 26, 3) := by decide +kernel
theorem dX0_firstStaleAhead_19 : decode cX0_firstStaleAhead 19 = .ok (.iload_n 2, 1) := by decide +kernel
theorem dX0_firstStaleAhead_20 : decode cX0_firstStaleAhead 20 = .ok (.iaload, 1) := by decide +kernel
theorem dX0_firstStaleAhead_21 : decode cX0_firstStaleAhead 21 = .ok (.invokestatic 130, 3) := by decide +kernel
theorem dX0_firstStaleAhead_24 : decode cX0_firstStaleAhead 24 = .ok (.ifCond .eq 28, 3) := by decide +kernel
theorem dX0_firstStaleAhead_27 : decode cX0_firstStaleAhead 27 = .ok (.aload_n 0, 1) := by decide +kernel
theorem dX0_firstStaleAhead_28 : decode cX0_firstStaleAhead 28 = .ok (.getfield 22, 3) := by decide +kernel
theorem dX0_firstStaleAhead_31 : decode cX0_firstStaleAhead 31 = .ok (.aload_n 0, 1) := by decide +kernel
theorem dX0_firstStaleAhead_32 : decode cX0_firstStaleAhead 32 = .ok (.getfield 26, 3) := by decide +kernel
theorem dX0_firstStaleAhead_35 : decode cX0_firstStaleAhead 35 = .ok (.iload_n 2, 1) := by decide +kernel
theorem dX0_firstStaleAhead_36 : decode cX0_firstStaleAhead 36 = .ok (.iaload, 1) := by decide +kernel
theorem dX0_firstStaleAhead_37 : decode cX0_firstStaleAhead 37 = .ok (.iconst 2, 1) := by decide +kernel
theorem dX0_firstStaleAhead_38 : decode cX0_firstStaleAhead 38 = .ok (.idiv, 1) := by decide +kernel
theorem dX0_firstStaleAhead_39 : decode cX0_firstStaleAhead 39 = .ok (.baload, 1) := by decide +kernel
theorem dX0_firstStaleAhead_40 : decode cX0_firstStaleAhead 40 = .ok (.ifCond .eq 12, 3) := by decide +kernel
theorem dX0_firstStaleAhead_43 : decode cX0_firstStaleAhead 43 = .ok (.aload_n 0, 1) := by decide +kernel
theorem dX0_firstStaleAhead_44 : decode cX0_firstStaleAhead 44 = .ok (.getfield 26, 3) := by decide +kernel
theorem dX0_firstStaleAhead_47 : decode cX0_firstStaleAhead 47 = .ok (.iload_n 2, 1) := by decide +kernel
theorem dX0_firstStaleAhead_48 : decode cX0_firstStaleAhead 48 = .ok (.iaload, 1) := by decide +kernel
theorem dX0_firstStaleAhead_49 : decode cX0_firstStaleAhead 49 = .ok (.iconst 2, 1) := by decide +kernel
theorem dX0_firstStaleAhead_50 : decode cX0_firstStaleAhead 50 = .ok (.idiv, 1) := by decide +kernel
theorem dX0_firstStaleAhead_51 : decode cX0_firstStaleAhead 51 = .ok (.ireturn, 1) := by decide +kernel
theorem dX0_firstStaleAhead_52 : decode cX0_firstStaleAhead 52 = .ok (.iinc 2 1, 3) := by decide +kernel
theorem dX0_firstStaleAhead_55 : decode cX0_firstStaleAhead 55 = .ok (.goto (-45), 3) := by decide +kernel
theorem dX0_firstStaleAhead_58 : decode cX0_firstStaleAhead 58 = .ok (.iconst (-1), 1) := by decide +kernel
theorem dX0_firstStaleAhead_59 : decode cX0_firstStaleAhead 59 = .ok (.ireturn, 1) := by decide +kernel
theorem dX0_aheadUpTo_0 : decode cX0_aheadUpTo 0 = .ok (.aload_n 0, 1) := by decide +kernel
theorem dX0_aheadUpTo_1 : decode cX0_aheadUpTo 1 = .ok (.invokevirtual 69, 3) := by decide +kernel
theorem dX0_aheadUpTo_4 : decode cX0_aheadUpTo 4 = .ok (.istore_n 1, 1) := by decide +kernel
theorem dX0_aheadUpTo_5 : decode cX0_aheadUpTo 5 = .ok (.iload_n 1, 1) := by decide +kernel
theorem dX0_aheadUpTo_6 : decode cX0_aheadUpTo 6 = .ok (.iconst (-1), 1) := by decide +kernel
theorem dX0_aheadUpTo_7 : decode cX0_aheadUpTo 7 = .ok (.if_icmp .ne 10, 3) := by decide +kernel
theorem dX0_aheadUpTo_10 : decode cX0_aheadUpTo 10 = .ok (.aload_n 0, 1) := by decide +kernel
theorem dX0_aheadUpTo_11 : decode cX0_aheadUpTo 11 = .ok (.getfield 106, 3) := by decide +kernel
theorem dX0_aheadUpTo_14 : decode cX0_aheadUpTo 14 = .ok (.goto 9, 3) := by decide +kernel
theorem dX0_aheadUpTo_17 : decode cX0_aheadUpTo 17 = .ok (.aload_n 0, 1) := by decide +kernel
theorem dX0_aheadUpTo_18 : decode cX0_aheadUpTo 18 = .ok (.getfield 19, 3) := by decide +kernel
theorem dX0_aheadUpTo_21 : decode cX0_aheadUpTo 21 = .ok (.iload_n 1, 1) := by decide +kernel
theorem dX0_aheadUpTo_22 : decode cX0_aheadUpTo 22 = .ok (.iaload, 1) := by decide +kernel
theorem dX0_aheadUpTo_23 : decode cX0_aheadUpTo 23 = .ok (.ireturn, 1) := by decide +kernel
theorem dX0_putFrame_0 : decode cX0_putFrame 0 = .ok (.aload_n 0, 1) := by decide +kernel
theorem dX0_putFrame_1 : decode cX0_putFrame 1 = .ok (.getfield 82, 3) := by decide +kernel
theorem dX0_putFrame_4 : decode cX0_putFrame 4 = .ok (.bipush 64, 2) := by decide +kernel
theorem dX0_putFrame_6 : decode cX0_putFrame 6 = .ok (.if_icmp .lt 4, 3) := by decide +kernel
theorem dX0_putFrame_9 : decode cX0_putFrame 9 = .ok (.return_, 1) := by decide +kernel
theorem dX0_putFrame_10 : decode cX0_putFrame 10 = .ok (.aload_n 0, 1) := by decide +kernel
theorem dX0_putFrame_11 : decode cX0_putFrame 11 = .ok (.getfield 29, 3) := by decide +kernel
theorem dX0_putFrame_14 : decode cX0_putFrame 14 = .ok (.aload_n 0, 1) := by decide +kernel
theorem dX0_putFrame_15 : decode cX0_putFrame 15 = .ok (.getfield 82, 3) := by decide +kernel
theorem dX0_putFrame_18 : decode cX0_putFrame 18 = .ok (.iload_n 1, 1) := by decide +kernel
theorem dX0_putFrame_19 : decode cX0_putFrame 19 = .ok (.iastore, 1) := by decide +kernel
theorem dX0_putFrame_20 : decode cX0_putFrame 20 = .ok (.aload_n 0, 1) := by decide +kernel
theorem dX0_putFrame_21 : decode cX0_putFrame 21 = .ok (.getfield 32, 3) := by decide +kernel
theorem dX0_putFrame_24 : decode cX0_putFrame 24 = .ok (.aload_n 0, 1) := by decide +kernel
theorem dX0_putFrame_25 : decode cX0_putFrame 25 = .ok (.getfield 82, 3) := by decide +kernel
theorem dX0_putFrame_28 : decode cX0_putFrame 28 = .ok (.iload_n 2, 1) := by decide +kernel
theorem dX0_putFrame_29 : decode cX0_putFrame 29 = .ok (.iastore, 1) := by decide +kernel
theorem dX0_putFrame_30 : decode cX0_putFrame 30 = .ok (.aload_n 0, 1) := by decide +kernel
theorem dX0_putFrame_31 : decode cX0_putFrame 31 = .ok (.getfield 35, 3) := by decide +kernel
theorem dX0_putFrame_34 : decode cX0_putFrame 34 = .ok (.aload_n 0, 1) := by decide +kernel
theorem dX0_putFrame_35 : decode cX0_putFrame 35 = .ok (.getfield 82, 3) := by decide +kernel
theorem dX0_putFrame_38 : decode cX0_putFrame 38 = .ok (.aload_n 0, 1) := by decide +kernel
theorem dX0_putFrame_39 : decode cX0_putFrame 39 = .ok (.getfield 51, 3) := by decide +kernel
theorem dX0_putFrame_42 : decode cX0_putFrame 42 = .ok (.iastore, 1) := by decide +kernel
theorem dX0_putFrame_43 : decode cX0_putFrame 43 = .ok (.aload_n 0, 1) := by decide +kernel
theorem dX0_putFrame_44 : decode cX0_putFrame 44 = .ok (.dup, 1) := by decide +kernel
theorem dX0_putFrame_45 : decode cX0_putFrame 45 = .ok (.getfield 82, 3) := by decide +kernel
theorem dX0_putFrame_48 : decode cX0_putFrame 48 = .ok (.iconst 1, 1) := by decide +kernel
theorem dX0_putFrame_49 : decode cX0_putFrame 49 = .ok (.iadd, 1) := by decide +kernel
theorem dX0_putFrame_50 : decode cX0_putFrame 50 = .ok (.putfield 82, 3) := by decide +kernel
theorem dX0_putFrame_53 : decode cX0_putFrame 53 = .ok (.aload_n 0, 1) := by decide +kernel
theorem dX0_putFrame_54 : decode cX0_putFrame 54 = .ok (.aload_n 0, 1) := by decide +kernel
theorem dX0_putFrame_55 : decode cX0_putFrame 55 = .ok (.getfield 16, 3) := by decide +kernel
theorem dX0_putFrame_58 : decode cX0_putFrame 58 = .ok (.iload_n 1, 1) := by decide +kernel
theorem dX0_putFrame_59 : decode cX0_putFrame 59 = .ok (.iaload, 1) := by decide +kernel
theorem dX0_putFrame_60 : decode cX0_putFrame 60 = .ok (.iconst 1, 1) := by decide +kernel
theorem dX0_putFrame_61 : decode cX0_putFrame 61 = .ok (.iadd, 1) := by decide +kernel
theorem dX0_putFrame_62 : decode cX0_putFrame 62 = .ok (.putfield 96, 3) := by decide +kernel
theorem dX0_putFrame_65 : decode cX0_putFrame 65 = .ok (.return_, 1) := by decide +kernel
theorem dX0_take_0 : decode cX0_take 0 = .ok (.aload_n 0, 1) := by decide +kernel
theorem dX0_take_1 : decode cX0_take 1 = .ok (.invokevirtual 48, 3) := by decide +kernel
theorem dX0_take_4 : decode cX0_take 4 = .ok (.iconst 1, 1) := by decide +kernel
theorem dX0_take_5 : decode cX0_take 5 = .ok (.if_icmp .ne 12, 3) := by decide +kernel
theorem dX0_take_8 : decode cX0_take 8 = .ok (.aload_n 0, 1) := by decide +kernel
theorem dX0_take_9 : decode cX0_take 9 = .ok (.getfield 82, 3) := by decide +kernel
theorem dX0_take_12 : decode cX0_take 12 = .ok (.bipush 64, 2) := by decide +kernel
theorem dX0_take_14 : decode cX0_take 14 = .ok (.if_icmp .lt 5, 3) := by decide +kernel
theorem dX0_take_17 : decode cX0_take 17 = .ok (.iconst (-1), 1) := by decide +kernel
theorem dX0_take_18 : decode cX0_take 18 = .ok (.ireturn, 1) := by decide +kernel
theorem dX0_take_19 : decode cX0_take 19 = .ok (.aload_n 0, 1) := by decide +kernel
theorem dX0_take_20 : decode cX0_take 20 = .ok (.iload_n 1, 1) := by decide +kernel
theorem dX0_take_21 : decode cX0_take 21 = .ok (.invokevirtual 92, 3) := by decide +kernel
theorem dX0_take_24 : decode cX0_take 24 = .ok (.istore_n 2, 1) := by decide +kernel
theorem dX0_take_25 : decode cX0_take 25 = .ok (.iload_n 2, 1) := by decide +kernel
theorem dX0_take_26 : decode cX0_take 26 = .ok (.iconst (-1), 1) := by decide +kernel
theorem dX0_take_27 : decode cX0_take 27 = .ok (.if_icmp .ne 5, 3) := by decide +kernel
theorem dX0_take_30 : decode cX0_take 30 = .ok (.iconst (-1), 1) := by decide +kernel
theorem dX0_take_31 : decode cX0_take 31 = .ok (.ireturn, 1) := by decide +kernel
theorem dX0_take_32 : decode cX0_take 32 = .ok (.aload_n 0, 1) := by decide +kernel
theorem dX0_take_33 : decode cX0_take 33 = .ok (.aload_n 0, 1) := by decide +kernel
theorem dX0_take_34 : decode cX0_take 34 = .ok (.getfield 96, 3) := by decide +kernel
theorem dX0_take_37 : decode cX0_take 37 = .ok (.aload_n 0, 1) := by decide +kernel
theorem dX0_take_38 : decode cX0_take 38 = .ok (.getfield 16, 3) := by decide +kernel
theorem dX0_take_41 : decode cX0_take 41 = .ok (.iload_n 2, 1) := by decide +kernel
theorem dX0_take_42 : decode cX0_take 42 = .ok (.iaload, 1) := by decide +kernel
theorem dX0_take_43 : decode cX0_take 43 = .ok (.invokevirtual 99, 3) := by decide +kernel
theorem dX0_take_46 : decode cX0_take 46 = .ok (.aload_n 0, 1) := by decide +kernel
theorem dX0_take_47 : decode cX0_take 47 = .ok (.iload_n 2, 1) := by decide +kernel
theorem dX0_take_48 : decode cX0_take 48 = .ok (.iconst 2, 1) := by decide +kernel
theorem dX0_take_49 : decode cX0_take 49 = .ok (.invokevirtual 88, 3) := by decide +kernel
theorem dX0_take_52 : decode cX0_take 52 = .ok (.iload_n 2, 1) := by decide +kernel
theorem dX0_take_53 : decode cX0_take 53 = .ok (.ireturn, 1) := by decide +kernel
theorem dX0_firstFreshAhead_0 : decode cX0_firstFreshAhead 0 = .ok (.aload_n 0, 1) := by decide +kernel
theorem dX0_firstFreshAhead_1 : decode cX0_firstFreshAhead 1 = .ok (.invokevirtual 127, 3) := by decide +kernel
theorem dX0_firstFreshAhead_4 : decode cX0_firstFreshAhead 4 = .ok (.istore_n 2, 1) := by decide +kernel
theorem dX0_firstFreshAhead_5 : decode cX0_firstFreshAhead 5 = .ok (.aload_n 0, 1) := by decide +kernel
theorem dX0_firstFreshAhead_6 : decode cX0_firstFreshAhead 6 = .ok (.getfield 96, 3) := by decide +kernel
theorem dX0_firstFreshAhead_9 : decode cX0_firstFreshAhead 9 = .ok (.istore_n 3, 1) := by decide +kernel
theorem dX0_firstFreshAhead_10 : decode cX0_firstFreshAhead 10 = .ok (.iload_n 3, 1) := by decide +kernel
theorem dX0_firstFreshAhead_11 : decode cX0_firstFreshAhead 11 = .ok (.iload_n 2, 1) := by decide +kernel
theorem dX0_firstFreshAhead_12 : decode cX0_firstFreshAhead 12 = .ok (.if_icmp .ge 87, 3) := by decide +kernel
theorem dX0_firstFreshAhead_15 : decode cX0_firstFreshAhead 15 = .ok (.aload_n 0, 1) := by decide +kernel
theorem dX0_firstFreshAhead_16 : decode cX0_firstFreshAhead 16 = .ok (.getfield 26, 3) := by decide +kernel
theorem dX0_firstFreshAhead_19 : decode cX0_firstFreshAhead 19 = .ok (.iload_n 3, 1) := by decide +kernel
theorem dX0_firstFreshAhead_20 : decode cX0_firstFreshAhead 20 = .ok (.iaload, 1) := by decide +kernel
theorem dX0_firstFreshAhead_21 : decode cX0_firstFreshAhead 21 = .ok (.iconst 2, 1) := by decide +kernel
theorem dX0_firstFreshAhead_22 : decode cX0_firstFreshAhead 22 = .ok (.idiv, 1) := by decide +kernel
theorem dX0_firstFreshAhead_23 : decode cX0_firstFreshAhead 23 = .ok (.istore 4, 2) := by decide +kernel
theorem dX0_firstFreshAhead_25 : decode cX0_firstFreshAhead 25 = .ok (.aload_n 0, 1) := by decide +kernel
theorem dX0_firstFreshAhead_26 : decode cX0_firstFreshAhead 26 = .ok (.getfield 26, 3) := by decide +kernel
theorem dX0_firstFreshAhead_29 : decode cX0_firstFreshAhead 29 = .ok (.iload_n 3, 1) := by decide +kernel
theorem dX0_firstFreshAhead_30 : decode cX0_firstFreshAhead 30 = .ok (.iaload, 1) := by decide +kernel
theorem dX0_firstFreshAhead_31 : decode cX0_firstFreshAhead 31 = .ok (.invokestatic 130, 3) := by decide +kernel
theorem dX0_firstFreshAhead_34 : decode cX0_firstFreshAhead 34 = .ok (.ifCond .eq 28, 3) := by decide +kernel
theorem dX0_firstFreshAhead_37 : decode cX0_firstFreshAhead 37 = .ok (.aload_n 0, 1) := by decide +kernel
theorem dX0_firstFreshAhead_38 : decode cX0_firstFreshAhead 38 = .ok (.getfield 9, 3) := by decide +kernel
theorem dX0_firstFreshAhead_41 : decode cX0_firstFreshAhead 41 = .ok (.iload 4, 2) := by decide +kernel
theorem dX0_firstFreshAhead_43 : decode cX0_firstFreshAhead 43 = .ok (.iaload, 1) := by decide +kernel
theorem dX0_firstFreshAhead_44 : decode cX0_firstFreshAhead 44 = .ok (.iload_n 1, 1) := by decide +kernel
theorem dX0_firstFreshAhead_45 : decode cX0_firstFreshAhead 45 = .ok (.if_icmp .ne 17, 3) := by decide +kernel
theorem dX0_firstFreshAhead_48 : decode cX0_firstFreshAhead 48 = .ok (.aload_n 0, 1) := by decide +kernel
theorem dX0_firstFreshAhead_49 : decode cX0_firstFreshAhead 49 = .ok (.getfield 22, 3) := by decide +kernel
theorem dX0_firstFreshAhead_52 : decode cX0_firstFreshAhead 52 = .ok (.iload 4, 2) := by decide +kernel
theorem dX0_firstFreshAhead_54 : decode cX0_firstFreshAhead 54 = .ok (.baload, 1) := by decide +kernel
theorem dX0_firstFreshAhead_55 : decode cX0_firstFreshAhead 55 = .ok (.ifCond .ne 7, 3) := by decide +kernel
theorem dX0_firstFreshAhead_58 : decode cX0_firstFreshAhead 58 = .ok (.iconst 1, 1) := by decide +kernel
theorem dX0_firstFreshAhead_59 : decode cX0_firstFreshAhead 59 = .ok (.goto 4, 3) := by decide +kernel
theorem dX0_firstFreshAhead_62 : decode cX0_firstFreshAhead 62 = .ok (.iconst 0, 1) := by decide +kernel
theorem dX0_firstFreshAhead_63 : decode cX0_firstFreshAhead 63 = .ok (.istore 5, 2) := by decide +kernel
theorem dX0_firstFreshAhead_65 : decode cX0_firstFreshAhead 65 = .ok (.iload 5, 2) := by decide +kernel
theorem dX0_firstFreshAhead_67 : decode cX0_firstFreshAhead 67 = .ok (.ifCond .eq 26, 3) := by decide +kernel
theorem dX0_firstFreshAhead_70 : decode cX0_firstFreshAhead 70 = .ok (.aload_n 0, 1) := by decide +kernel
theorem dX0_firstFreshAhead_71 : decode cX0_firstFreshAhead 71 = .ok (.iload 4, 2) := by decide +kernel
theorem dX0_firstFreshAhead_73 : decode cX0_firstFreshAhead 73 = .ok (.invokevirtual 76, 3) := by decide +kernel
theorem dX0_firstFreshAhead_76 : decode cX0_firstFreshAhead 76 = .ok (.ifCond .eq 17, 3) := by decide +kernel
theorem dX0_firstFreshAhead_79 : decode cX0_firstFreshAhead 79 = .ok (.aload_n 0, 1) := by decide +kernel
theorem dX0_firstFreshAhead_80 : decode cX0_firstFreshAhead 80 = .ok (.getfield 19, 3) := by decide +kernel
theorem dX0_firstFreshAhead_83 : decode cX0_firstFreshAhead 83 = .ok (.iload 4, 2) := by decide +kernel
theorem dX0_firstFreshAhead_85 : decode cX0_firstFreshAhead 85 = .ok (.iaload, 1) := by decide +kernel
theorem dX0_firstFreshAhead_86 : decode cX0_firstFreshAhead 86 = .ok (.iload_n 2, 1) := by decide +kernel
theorem dX0_firstFreshAhead_87 : decode cX0_firstFreshAhead 87 = .ok (.if_icmp .ge 6, 3) := by decide +kernel
theorem dX0_firstFreshAhead_90 : decode cX0_firstFreshAhead 90 = .ok (.iload 4, 2) := by decide +kernel
theorem dX0_firstFreshAhead_92 : decode cX0_firstFreshAhead 92 = .ok (.ireturn, 1) := by decide +kernel
theorem dX0_firstFreshAhead_93 : decode cX0_firstFreshAhead 93 = .ok (.iinc 3 1, 3) := by decide +kernel
theorem dX0_firstFreshAhead_96 : decode cX0_firstFreshAhead 96 = .ok (.goto (-86), 3) := by decide +kernel
theorem dX0_firstFreshAhead_99 : decode cX0_firstFreshAhead 99 = .ok (.iconst (-1), 1) := by decide +kernel
theorem dX0_firstFreshAhead_100 : decode cX0_firstFreshAhead 100 = .ok (.ireturn, 1) := by decide +kernel
theorem dX0_erase_0 : decode cX0_erase 0 = .ok (.iload_n 1, 1) := by decide +kernel
theorem dX0_erase_1 : decode cX0_erase 1 = .ok (.istore_n 3, 1) := by decide +kernel
theorem dX0_erase_2 : decode cX0_erase 2 = .ok (.iload_n 3, 1) := by decide +kernel
theorem dX0_erase_3 : decode cX0_erase 3 = .ok (.iload_n 2, 1) := by decide +kernel
theorem dX0_erase_4 : decode cX0_erase 4 = .ok (.if_icmp .ge 21, 3) := by decide +kernel
theorem dX0_erase_7 : decode cX0_erase 7 = .ok (.aload_n 0, 1) := by decide +kernel
theorem dX0_erase_8 : decode cX0_erase 8 = .ok (.aload_n 0, 1) := by decide +kernel
theorem dX0_erase_9 : decode cX0_erase 9 = .ok (.getfield 26, 3) := by decide +kernel
theorem dX0_erase_12 : decode cX0_erase 12 = .ok (.iload_n 3, 1) := by decide +kernel
theorem dX0_erase_13 : decode cX0_erase 13 = .ok (.iaload, 1) := by decide +kernel
theorem dX0_erase_14 : decode cX0_erase 14 = .ok (.iconst 2, 1) := by decide +kernel
theorem dX0_erase_15 : decode cX0_erase 15 = .ok (.idiv, 1) := by decide +kernel
theorem dX0_erase_16 : decode cX0_erase 16 = .ok (.invokevirtual 136, 3) := by decide +kernel
theorem dX0_erase_19 : decode cX0_erase 19 = .ok (.iinc 3 1, 3) := by decide +kernel
theorem dX0_erase_22 : decode cX0_erase 22 = .ok (.goto (-20), 3) := by decide +kernel
theorem dX0_erase_25 : decode cX0_erase 25 = .ok (.iconst 0, 1) := by decide +kernel
theorem dX0_erase_26 : decode cX0_erase 26 = .ok (.istore_n 3, 1) := by decide +kernel
theorem dX0_erase_27 : decode cX0_erase 27 = .ok (.iconst 0, 1) := by decide +kernel
theorem dX0_erase_28 : decode cX0_erase 28 = .ok (.istore 4, 2) := by decide +kernel
theorem dX0_erase_30 : decode cX0_erase 30 = .ok (.iload 4, 2) := by decide +kernel
theorem dX0_erase_32 : decode cX0_erase 32 = .ok (.aload_n 0, 1) := by decide +kernel
theorem dX0_erase_33 : decode cX0_erase 33 = .ok (.getfield 106, 3) := by decide +kernel
theorem dX0_erase_36 : decode cX0_erase 36 = .ok (.if_icmp .ge 40, 3) := by decide +kernel
theorem dX0_erase_39 : decode cX0_erase 39 = .ok (.aload_n 0, 1) := by decide +kernel
theorem dX0_erase_40 : decode cX0_erase 40 = .ok (.aload_n 0, 1) := by decide +kernel
theorem dX0_erase_41 : decode cX0_erase 41 = .ok (.getfield 26, 3) := by decide +kernel
theorem dX0_erase_44 : decode cX0_erase 44 = .ok (.iload 4, 2) := by decide +kernel
theorem dX0_erase_46 : decode cX0_erase 46 = .ok (.iaload, 1) := by decide +kernel
theorem dX0_erase_47 : decode cX0_erase 47 = .ok (.iconst 2, 1) := by decide +kernel
theorem dX0_erase_48 : decode cX0_erase 48 = .ok (.idiv, 1) := by decide +kernel
theorem dX0_erase_49 : decode cX0_erase 49 = .ok (.invokevirtual 72, 3) := by decide +kernel
theorem dX0_erase_52 : decode cX0_erase 52 = .ok (.ifCond .eq 18, 3) := by decide +kernel
theorem dX0_erase_55 : decode cX0_erase 55 = .ok (.aload_n 0, 1) := by decide +kernel
theorem dX0_erase_56 : decode cX0_erase 56 = .ok (.aload_n 0, 1) := by decide +kernel
theorem dX0_erase_57 : decode cX0_erase 57 = .ok (.getfield 26, 3) := by decide +kernel
theorem dX0_erase_60 : decode cX0_erase 60 = .ok (.iload 4, 2) := by decide +kernel
theorem dX0_erase_62 : decode cX0_erase 62 = .ok (.iaload, 1) := by decide +kernel
theorem dX0_erase_63 : decode cX0_erase 63 = .ok (.iload_n 3, 1) := by decide +kernel
theorem dX0_erase_64 : decode cX0_erase 64 = .ok (.invokevirtual 133, 3) := by decide +kernel
theorem dX0_erase_67 : decode cX0_erase 67 = .ok (.iinc 3 1, 3) := by decide +kernel
theorem dX0_erase_70 : decode cX0_erase 70 = .ok (.iinc 4 1, 3) := by decide +kernel
theorem dX0_erase_73 : decode cX0_erase 73 = .ok (.goto (-43), 3) := by decide +kernel
theorem dX0_erase_76 : decode cX0_erase 76 = .ok (.aload_n 0, 1) := by decide +kernel
theorem dX0_erase_77 : decode cX0_erase 77 = .ok (.iload_n 3, 1) := by decide +kernel
theorem dX0_erase_78 : decode cX0_erase 78 = .ok (.putfield 106, 3) := by decide +kernel
theorem dX0_erase_81 : decode cX0_erase 81 = .ok (.return_, 1) := by decide +kernel
theorem dX0_forget_0 : decode cX0_forget 0 = .ok (.aload_n 0, 1) := by decide +kernel
theorem dX0_forget_1 : decode cX0_forget 1 = .ok (.iload_n 1, 1) := by decide +kernel
theorem dX0_forget_2 : decode cX0_forget 2 = .ok (.invokevirtual 72, 3) := by decide +kernel
theorem dX0_forget_5 : decode cX0_forget 5 = .ok (.ifCond .ne 4, 3) := by decide +kernel
theorem dX0_forget_8 : decode cX0_forget 8 = .ok (.return_, 1) := by decide +kernel
theorem dX0_forget_9 : decode cX0_forget 9 = .ok (.aload_n 0, 1) := by decide +kernel
theorem dX0_forget_10 : decode cX0_forget 10 = .ok (.getfield 22, 3) := by decide +kernel
theorem dX0_forget_13 : decode cX0_forget 13 = .ok (.iload_n 1, 1) := by decide +kernel
theorem dX0_forget_14 : decode cX0_forget 14 = .ok (.baload, 1) := by decide +kernel
theorem dX0_forget_15 : decode cX0_forget 15 = .ok (.ifCond .eq 13, 3) := by decide +kernel
theorem dX0_forget_18 : decode cX0_forget 18 = .ok (.aload_n 0, 1) := by decide +kernel
theorem dX0_forget_19 : decode cX0_forget 19 = .ok (.dup, 1) := by decide +kernel
theorem dX0_forget_20 : decode cX0_forget 20 = .ok (.getfield 79, 3) := by decide +kernel
theorem dX0_forget_23 : decode cX0_forget 23 = .ok (.iconst 1, 1) := by decide +kernel
theorem dX0_forget_24 : decode cX0_forget 24 = .ok (.isub, 1) := by decide +kernel
theorem dX0_forget_25 : decode cX0_forget 25 = .ok (.putfield 79, 3) := by decide +kernel
theorem dX0_forget_28 : decode cX0_forget 28 = .ok (.aload_n 0, 1) := by decide +kernel
theorem dX0_forget_29 : decode cX0_forget 29 = .ok (.dup, 1) := by decide +kernel
theorem dX0_forget_30 : decode cX0_forget 30 = .ok (.getfield 66, 3) := by decide +kernel
theorem dX0_forget_33 : decode cX0_forget 33 = .ok (.aload_n 0, 1) := by decide +kernel
theorem dX0_forget_34 : decode cX0_forget 34 = .ok (.getfield 13, 3) := by decide +kernel
theorem dX0_forget_37 : decode cX0_forget 37 = .ok (.iload_n 1, 1) := by decide +kernel
theorem dX0_forget_38 : decode cX0_forget 38 = .ok (.iaload, 1) := by decide +kernel
theorem dX0_forget_39 : decode cX0_forget 39 = .ok (.isub, 1) := by decide +kernel
theorem dX0_forget_40 : decode cX0_forget 40 = .ok (.putfield 66, 3) := by decide +kernel
theorem dX0_forget_43 : decode cX0_forget 43 = .ok (.aload_n 0, 1) := by decide +kernel
theorem dX0_forget_44 : decode cX0_forget 44 = .ok (.getfield 16, 3) := by decide +kernel
theorem dX0_forget_47 : decode cX0_forget 47 = .ok (.iload_n 1, 1) := by decide +kernel
theorem dX0_forget_48 : decode cX0_forget 48 = .ok (.iconst (-1), 1) := by decide +kernel
theorem dX0_forget_49 : decode cX0_forget 49 = .ok (.iastore, 1) := by decide +kernel
theorem dX0_forget_50 : decode cX0_forget 50 = .ok (.aload_n 0, 1) := by decide +kernel
theorem dX0_forget_51 : decode cX0_forget 51 = .ok (.dup, 1) := by decide +kernel
theorem dX0_forget_52 : decode cX0_forget 52 = .ok (.getfield 55, 3) := by decide +kernel
theorem dX0_forget_55 : decode cX0_forget 55 = .ok (.iconst 1, 1) := by decide +kernel
theorem dX0_forget_56 : decode cX0_forget 56 = .ok (.isub, 1) := by decide +kernel
theorem dX0_forget_57 : decode cX0_forget 57 = .ok (.putfield 55, 3) := by decide +kernel
theorem dX0_forget_60 : decode cX0_forget 60 = .ok (.return_, 1) := by decide +kernel
theorem dX0_done_0 : decode cX0_done 0 = .ok (.aload_n 0, 1) := by decide +kernel
theorem dX0_done_1 : decode cX0_done 1 = .ok (.invokevirtual 69, 3) := by decide +kernel
theorem dX0_done_4 : decode cX0_done 4 = .ok (.istore_n 1, 1) := by decide +kernel
theorem dX0_done_5 : decode cX0_done 5 = .ok (.iload_n 1, 1) := by decide +kernel
theorem dX0_done_6 : decode cX0_done 6 = .ok (.iconst (-1), 1) := by decide +kernel
theorem dX0_done_7 : decode cX0_done 7 = .ok (.if_icmp .eq 11, 3) := by decide +kernel
theorem dX0_done_10 : decode cX0_done 10 = .ok (.aload_n 0, 1) := by decide +kernel
theorem dX0_done_11 : decode cX0_done 11 = .ok (.invokevirtual 62, 3) := by decide +kernel
theorem dX0_done_14 : decode cX0_done 14 = .ok (.iconst (-1), 1) := by decide +kernel
theorem dX0_done_15 : decode cX0_done 15 = .ok (.if_icmp .eq 5, 3) := by decide +kernel
theorem dX0_done_18 : decode cX0_done 18 = .ok (.iconst (-1), 1) := by decide +kernel
theorem dX0_done_19 : decode cX0_done 19 = .ok (.ireturn, 1) := by decide +kernel
theorem dX0_done_20 : decode cX0_done 20 = .ok (.aload_n 0, 1) := by decide +kernel
theorem dX0_done_21 : decode cX0_done 21 = .ok (.invokevirtual 48, 3) := by decide +kernel
theorem dX0_done_24 : decode cX0_done 24 = .ok (.iconst 1, 1) := by decide +kernel
theorem dX0_done_25 : decode cX0_done 25 = .ok (.if_icmp .ne 17, 3) := by decide +kernel
theorem dX0_done_28 : decode cX0_done 28 = .ok (.aload_n 0, 1) := by decide +kernel
theorem dX0_done_29 : decode cX0_done 29 = .ok (.aload_n 0, 1) := by decide +kernel
theorem dX0_done_30 : decode cX0_done 30 = .ok (.getfield 96, 3) := by decide +kernel
theorem dX0_done_33 : decode cX0_done 33 = .ok (.aload_n 0, 1) := by decide +kernel
theorem dX0_done_34 : decode cX0_done 34 = .ok (.getfield 19, 3) := by decide +kernel
theorem dX0_done_37 : decode cX0_done 37 = .ok (.iload_n 1, 1) := by decide +kernel
theorem dX0_done_38 : decode cX0_done 38 = .ok (.iaload, 1) := by decide +kernel
theorem dX0_done_39 : decode cX0_done 39 = .ok (.invokevirtual 99, 3) := by decide +kernel
theorem dX0_done_42 : decode cX0_done 42 = .ok (.aload_n 0, 1) := by decide +kernel
theorem dX0_done_43 : decode cX0_done 43 = .ok (.dup, 1) := by decide +kernel
theorem dX0_done_44 : decode cX0_done 44 = .ok (.getfield 82, 3) := by decide +kernel
theorem dX0_done_47 : decode cX0_done 47 = .ok (.iconst 1, 1) := by decide +kernel
theorem dX0_done_48 : decode cX0_done 48 = .ok (.isub, 1) := by decide +kernel
theorem dX0_done_49 : decode cX0_done 49 = .ok (.putfield 82, 3) := by decide +kernel
theorem dX0_done_52 : decode cX0_done 52 = .ok (.aload_n 0, 1) := by decide +kernel
theorem dX0_done_53 : decode cX0_done 53 = .ok (.aload_n 0, 1) := by decide +kernel
theorem dX0_done_54 : decode cX0_done 54 = .ok (.getfield 19, 3) := by decide +kernel
theorem dX0_done_57 : decode cX0_done 57 = .ok (.iload_n 1, 1) := by decide +kernel
theorem dX0_done_58 : decode cX0_done 58 = .ok (.iaload, 1) := by decide +kernel
theorem dX0_done_59 : decode cX0_done 59 = .ok (.iconst 1, 1) := by decide +kernel
theorem dX0_done_60 : decode cX0_done 60 = .ok (.iadd, 1) := by decide +kernel
theorem dX0_done_61 : decode cX0_done 61 = .ok (.putfield 96, 3) := by decide +kernel
theorem dX0_done_64 : decode cX0_done 64 = .ok (.iload_n 1, 1) := by decide +kernel
theorem dX0_done_65 : decode cX0_done 65 = .ok (.ireturn, 1) := by decide +kernel
theorem dX0_toEnd_0 : decode cX0_toEnd 0 = .ok (.aload_n 0, 1) := by decide +kernel
theorem dX0_toEnd_1 : decode cX0_toEnd 1 = .ok (.invokevirtual 102, 3) := by decide +kernel
theorem dX0_toEnd_4 : decode cX0_toEnd 4 = .ok (.ifCond .ne 5, 3) := by decide +kernel
theorem dX0_toEnd_7 : decode cX0_toEnd 7 = .ok (.iconst 0, 1) := by decide +kernel
theorem dX0_toEnd_8 : decode cX0_toEnd 8 = .ok (.ireturn, 1) := by decide +kernel
theorem dX0_toEnd_9 : decode cX0_toEnd 9 = .ok (.aload_n 0, 1) := by decide +kernel
theorem dX0_toEnd_10 : decode cX0_toEnd 10 = .ok (.aload_n 0, 1) := by decide +kernel
theorem dX0_toEnd_11 : decode cX0_toEnd 11 = .ok (.getfield 106, 3) := by decide +kernel
theorem dX0_toEnd_14 : decode cX0_toEnd 14 = .ok (.putfield 96, 3) := by decide +kernel
theorem dX0_toEnd_17 : decode cX0_toEnd 17 = .ok (.iconst 1, 1) := by decide +kernel
theorem dX0_toEnd_18 : decode cX0_toEnd 18 = .ok (.ireturn, 1) := by decide +kernel
theorem dX0_mayMove_0 : decode cX0_mayMove 0 = .ok (.aload_n 0, 1) := by decide +kernel
theorem dX0_mayMove_1 : decode cX0_mayMove 1 = .ok (.getfield 82, 3) := by decide +kernel
theorem dX0_mayMove_4 : decode cX0_mayMove 4 = .ok (.iconst 1, 1) := by decide +kernel
theorem dX0_mayMove_5 : decode cX0_mayMove 5 = .ok (.if_icmp .ne 15, 3) := by decide +kernel
theorem dX0_mayMove_8 : decode cX0_mayMove 8 = .ok (.aload_n 0, 1) := by decide +kernel
theorem dX0_mayMove_9 : decode cX0_mayMove 9 = .ok (.invokevirtual 62, 3) := by decide +kernel
theorem dX0_mayMove_12 : decode cX0_mayMove 12 = .ok (.iconst (-1), 1) := by decide +kernel
theorem dX0_mayMove_13 : decode cX0_mayMove 13 = .ok (.if_icmp .ne 7, 3) := by decide +kernel
theorem dX0_mayMove_16 : decode cX0_mayMove 16 = .ok (.iconst 1, 1) := by decide +kernel
theorem dX0_mayMove_17 : decode cX0_mayMove 17 = .ok (.goto 4, 3) := by decide +kernel
theorem dX0_mayMove_20 : decode cX0_mayMove 20 = .ok (.iconst 0, 1) := by decide +kernel
theorem dX0_mayMove_21 : decode cX0_mayMove 21 = .ok (.ireturn, 1) := by decide +kernel
theorem dX0_toBegin_0 : decode cX0_toBegin 0 = .ok (.aload_n 0, 1) := by decide +kernel
theorem dX0_toBegin_1 : decode cX0_toBegin 1 = .ok (.invokevirtual 102, 3) := by decide +kernel
theorem dX0_toBegin_4 : decode cX0_toBegin 4 = .ok (.ifCond .ne 5, 3) := by decide +kernel
theorem dX0_toBegin_7 : decode cX0_toBegin 7 = .ok (.iconst 0, 1) := by decide +kernel
theorem dX0_toBegin_8 : decode cX0_toBegin 8 = .ok (.ireturn, 1) := by decide +kernel
theorem dX0_toBegin_9 : decode cX0_toBegin 9 = .ok (.aload_n 0, 1) := by decide +kernel
theorem dX0_toBegin_10 : decode cX0_toBegin 10 = .ok (.iconst 0, 1) := by decide +kernel
theorem dX0_toBegin_11 : decode cX0_toBegin 11 = .ok (.putfield 96, 3) := by decide +kernel
theorem dX0_toBegin_14 : decode cX0_toBegin 14 = .ok (.iconst 1, 1) := by decide +kernel
theorem dX0_toBegin_15 : decode cX0_toBegin 15 = .ok (.ireturn, 1) := by decide +kernel
theorem dX0_wipe_0 : decode cX0_wipe 0 = .ok (.aload_n 0, 1) := by decide +kernel
theorem dX0_wipe_1 : decode cX0_wipe 1 = .ok (.invokevirtual 41, 3) := by decide +kernel
theorem dX0_wipe_4 : decode cX0_wipe 4 = .ok (.return_, 1) := by decide +kernel
theorem dX0_event_0 : decode cX0_event 0 = .ok (.iload_n 1, 1) := by decide +kernel
theorem dX0_event_1 : decode cX0_event 1 = .ok (.ifCond .lt 20, 3) := by decide +kernel
theorem dX0_event_4 : decode cX0_event 4 = .ok (.iload_n 1, 1) := by decide +kernel
theorem dX0_event_5 : decode cX0_event 5 = .ok (.aload_n 0, 1) := by decide +kernel
theorem dX0_event_6 : decode cX0_event 6 = .ok (.getfield 106, 3) := by decide +kernel
theorem dX0_event_9 : decode cX0_event 9 = .ok (.if_icmp .ge 12, 3) := by decide +kernel
theorem dX0_event_12 : decode cX0_event 12 = .ok (.aload_n 0, 1) := by decide +kernel
theorem dX0_event_13 : decode cX0_event 13 = .ok (.getfield 26, 3) := by decide +kernel
theorem dX0_event_16 : decode cX0_event 16 = .ok (.iload_n 1, 1) := by decide +kernel
theorem dX0_event_17 : decode cX0_event 17 = .ok (.iaload, 1) := by decide +kernel
theorem dX0_event_18 : decode cX0_event 18 = .ok (.goto 4, 3) := by decide +kernel
theorem dX0_event_21 : decode cX0_event 21 = .ok (.iconst (-1), 1) := by decide +kernel
theorem dX0_event_22 : decode cX0_event 22 = .ok (.ireturn, 1) := by decide +kernel
theorem dX0_look_0 : decode cX0_look 0 = .ok (.iload_n 1, 1) := by decide +kernel
theorem dX0_look_1 : decode cX0_look 1 = .ok (.tableswitch 110 0 9 #[55, 60, 65, 70, 75, 80, 85, 90, 95, 100], 55) := by decide +kernel
theorem dX0_look_56 : decode cX0_look 56 = .ok (.aload_n 0, 1) := by decide +kernel
theorem dX0_look_57 : decode cX0_look 57 = .ok (.getfield 55, 3) := by decide +kernel
theorem dX0_look_60 : decode cX0_look 60 = .ok (.ireturn, 1) := by decide +kernel
theorem dX0_look_61 : decode cX0_look 61 = .ok (.aload_n 0, 1) := by decide +kernel
theorem dX0_look_62 : decode cX0_look 62 = .ok (.getfield 106, 3) := by decide +kernel
theorem dX0_look_65 : decode cX0_look 65 = .ok (.ireturn, 1) := by decide +kernel
theorem dX0_look_66 : decode cX0_look 66 = .ok (.aload_n 0, 1) := by decide +kernel
theorem dX0_look_67 : decode cX0_look 67 = .ok (.getfield 96, 3) := by decide +kernel
theorem dX0_look_70 : decode cX0_look 70 = .ok (.ireturn, 1) := by decide +kernel
theorem dX0_look_71 : decode cX0_look 71 = .ok (.aload_n 0, 1) := by decide +kernel
theorem dX0_look_72 : decode cX0_look 72 = .ok (.getfield 82, 3) := by decide +kernel
theorem dX0_look_75 : decode cX0_look 75 = .ok (.ireturn, 1) := by decide +kernel
theorem dX0_look_76 : decode cX0_look 76 = .ok (.aload_n 0, 1) := by decide +kernel
theorem dX0_look_77 : decode cX0_look 77 = .ok (.getfield 66, 3) := by decide +kernel
theorem dX0_look_80 : decode cX0_look 80 = .ok (.ireturn, 1) := by decide +kernel
theorem dX0_look_81 : decode cX0_look 81 = .ok (.aload_n 0, 1) := by decide +kernel
theorem dX0_look_82 : decode cX0_look 82 = .ok (.getfield 79, 3) := by decide +kernel
theorem dX0_look_85 : decode cX0_look 85 = .ok (.ireturn, 1) := by decide +kernel
theorem dX0_look_86 : decode cX0_look 86 = .ok (.aload_n 0, 1) := by decide +kernel
theorem dX0_look_87 : decode cX0_look 87 = .ok (.invokevirtual 69, 3) := by decide +kernel
theorem dX0_look_90 : decode cX0_look 90 = .ok (.ireturn, 1) := by decide +kernel
theorem dX0_look_91 : decode cX0_look 91 = .ok (.aload_n 0, 1) := by decide +kernel
theorem dX0_look_92 : decode cX0_look 92 = .ok (.invokevirtual 62, 3) := by decide +kernel
theorem dX0_look_95 : decode cX0_look 95 = .ok (.ireturn, 1) := by decide +kernel
theorem dX0_look_96 : decode cX0_look 96 = .ok (.aload_n 0, 1) := by decide +kernel
theorem dX0_look_97 : decode cX0_look 97 = .ok (.invokevirtual 48, 3) := by decide +kernel
theorem dX0_look_100 : decode cX0_look 100 = .ok (.ireturn, 1) := by decide +kernel
theorem dX0_look_101 : decode cX0_look 101 = .ok (.aload_n 0, 1) := by decide +kernel
theorem dX0_look_102 : decode cX0_look 102 = .ok (.invokevirtual 127, 3) := by decide +kernel
theorem dX0_look_105 : decode cX0_look 105 = .ok (.aload_n 0, 1) := by decide +kernel
theorem dX0_look_106 : decode cX0_look 106 = .ok (.getfield 96, 3) := by decide +kernel
theorem dX0_look_109 : decode cX0_look 109 = .ok (.isub, 1) := by decide +kernel
theorem dX0_look_110 : decode cX0_look 110 = .ok (.ireturn, 1) := by decide +kernel
theorem dX0_look_111 : decode cX0_look 111 = .ok (.iconst (-1), 1) := by decide +kernel
theorem dX0_look_112 : decode cX0_look 112 = .ok (.ireturn, 1) := by decide +kernel
theorem dX0_of_0 : decode cX0_of 0 = .ok (.aload_n 0, 1) := by decide +kernel
theorem dX0_of_1 : decode cX0_of 1 = .ok (.iload_n 1, 1) := by decide +kernel
theorem dX0_of_2 : decode cX0_of 2 = .ok (.invokevirtual 72, 3) := by decide +kernel
theorem dX0_of_5 : decode cX0_of 5 = .ok (.ifCond .ne 13, 3) := by decide +kernel
theorem dX0_of_8 : decode cX0_of 8 = .ok (.new 109, 3) := by decide +kernel
theorem dX0_of_11 : decode cX0_of 11 = .ok (.dup, 1) := by decide +kernel
theorem dX0_of_12 : decode cX0_of 12 = .ok (.ldc 111, 2) := by decide +kernel
theorem dX0_of_14 : decode cX0_of 14 = .ok (.invokespecial 113, 3) := by decide +kernel
theorem dX0_of_17 : decode cX0_of 17 = .ok (.athrow, 1) := by decide +kernel
theorem dX0_of_18 : decode cX0_of 18 = .ok (.iload_n 2, 1) := by decide +kernel
theorem dX0_of_19 : decode cX0_of 19 = .ok (.tableswitch 87 0 6 #[41, 48, 55, 61, 68, 75, 81], 41) := by decide +kernel
theorem dX0_of_60 : decode cX0_of 60 = .ok (.aload_n 0, 1) := by decide +kernel
theorem dX0_of_61 : decode cX0_of 61 = .ok (.getfield 9, 3) := by decide +kernel
theorem dX0_of_64 : decode cX0_of 64 = .ok (.iload_n 1, 1) := by decide +kernel
theorem dX0_of_65 : decode cX0_of 65 = .ok (.iaload, 1) := by decide +kernel
theorem dX0_of_66 : decode cX0_of 66 = .ok (.ireturn, 1) := by decide +kernel
theorem dX0_of_67 : decode cX0_of 67 = .ok (.aload_n 0, 1) := by decide +kernel
theorem dX0_of_68 : decode cX0_of 68 = .ok (.getfield 13, 3) := by decide +kernel
theorem dX0_of_71 : decode cX0_of 71 = .ok (.iload_n 1, 1) := by decide +kernel
theorem dX0_of_72 : decode cX0_of 72 = .ok (.iaload, 1) := by decide +kernel
theorem dX0_of_73 : decode cX0_of 73 = .ok (.ireturn, 1) := by decide +kernel
theorem dX0_of_74 : decode cX0_of 74 = .ok (.aload_n 0, 1) := by decide +kernel
theorem dX0_of_75 : decode cX0_of 75 = .ok (.iload_n 1, 1) := by decide +kernel
theorem dX0_of_76 : decode cX0_of 76 = .ok (.invokevirtual 116, 3) := by decide +kernel
theorem dX0_of_79 : decode cX0_of 79 = .ok (.ireturn, 1) := by decide +kernel
theorem dX0_of_80 : decode cX0_of 80 = .ok (.aload_n 0, 1) := by decide +kernel
theorem dX0_of_81 : decode cX0_of 81 = .ok (.getfield 16, 3) := by decide +kernel
theorem dX0_of_84 : decode cX0_of 84 = .ok (.iload_n 1, 1) := by decide +kernel
theorem dX0_of_85 : decode cX0_of 85 = .ok (.iaload, 1) := by decide +kernel
theorem dX0_of_86 : decode cX0_of 86 = .ok (.ireturn, 1) := by decide +kernel
theorem dX0_of_87 : decode cX0_of 87 = .ok (.aload_n 0, 1) := by decide +kernel
theorem dX0_of_88 : decode cX0_of 88 = .ok (.getfield 19, 3) := by decide +kernel
theorem dX0_of_91 : decode cX0_of 91 = .ok (.iload_n 1, 1) := by decide +kernel
theorem dX0_of_92 : decode cX0_of 92 = .ok (.iaload, 1) := by decide +kernel
theorem dX0_of_93 : decode cX0_of 93 = .ok (.ireturn, 1) := by decide +kernel
theorem dX0_of_94 : decode cX0_of 94 = .ok (.aload_n 0, 1) := by decide +kernel
theorem dX0_of_95 : decode cX0_of 95 = .ok (.iload_n 1, 1) := by decide +kernel
theorem dX0_of_96 : decode cX0_of 96 = .ok (.invokevirtual 119, 3) := by decide +kernel
theorem dX0_of_99 : decode cX0_of 99 = .ok (.ireturn, 1) := by decide +kernel
theorem dX0_of_100 : decode cX0_of 100 = .ok (.aload_n 0, 1) := by decide +kernel
theorem dX0_of_101 : decode cX0_of 101 = .ok (.iload_n 1, 1) := by decide +kernel
theorem dX0_of_102 : decode cX0_of 102 = .ok (.invokevirtual 122, 3) := by decide +kernel
theorem dX0_of_105 : decode cX0_of 105 = .ok (.ireturn, 1) := by decide +kernel
theorem dX0_of_106 : decode cX0_of 106 = .ok (.new 109, 3) := by decide +kernel
theorem dX0_of_109 : decode cX0_of 109 = .ok (.dup, 1) := by decide +kernel
theorem dX0_of_110 : decode cX0_of 110 = .ok (.ldc 125, 2) := by decide +kernel
theorem dX0_of_112 : decode cX0_of 112 = .ok (.invokespecial 113, 3) := by decide +kernel
theorem dX0_of_115 : decode cX0_of 115 = .ok (.athrow, 1) := by decide +kernel
theorem dX0_stateOf_0 : decode cX0_stateOf 0 = .ok (.aload_n 0, 1) := by decide +kernel
theorem dX0_stateOf_1 : decode cX0_stateOf 1 = .ok (.iload_n 1, 1) := by decide +kernel
theorem dX0_stateOf_2 : decode cX0_stateOf 2 = .ok (.invokevirtual 76, 3) := by decide +kernel
theorem dX0_stateOf_5 : decode cX0_stateOf 5 = .ok (.ifCond .ne 5, 3) := by decide +kernel
theorem dX0_stateOf_8 : decode cX0_stateOf 8 = .ok (.iconst 0, 1) := by decide +kernel
theorem dX0_stateOf_9 : decode cX0_stateOf 9 = .ok (.ireturn, 1) := by decide +kernel
theorem dX0_stateOf_10 : decode cX0_stateOf 10 = .ok (.aload_n 0, 1) := by decide +kernel
theorem dX0_stateOf_11 : decode cX0_stateOf 11 = .ok (.getfield 22, 3) := by decide +kernel
theorem dX0_stateOf_14 : decode cX0_stateOf 14 = .ok (.iload_n 1, 1) := by decide +kernel
theorem dX0_stateOf_15 : decode cX0_stateOf 15 = .ok (.baload, 1) := by decide +kernel
theorem dX0_stateOf_16 : decode cX0_stateOf 16 = .ok (.ifCond .eq 7, 3) := by decide +kernel
theorem dX0_stateOf_19 : decode cX0_stateOf 19 = .ok (.iconst 2, 1) := by decide +kernel
theorem dX0_stateOf_20 : decode cX0_stateOf 20 = .ok (.goto 4, 3) := by decide +kernel
theorem dX0_stateOf_23 : decode cX0_stateOf 23 = .ok (.iconst 1, 1) := by decide +kernel
theorem dX0_stateOf_24 : decode cX0_stateOf 24 = .ok (.ireturn, 1) := by decide +kernel
theorem dX0_innermostAround_0 : decode cX0_innermostAround 0 = .ok (.aload_n 0, 1) := by decide +kernel
theorem dX0_innermostAround_1 : decode cX0_innermostAround 1 = .ok (.getfield 16, 3) := by decide +kernel
theorem dX0_innermostAround_4 : decode cX0_innermostAround 4 = .ok (.iload_n 1, 1) := by decide +kernel
theorem dX0_innermostAround_5 : decode cX0_innermostAround 5 = .ok (.iaload, 1) := by decide +kernel
theorem dX0_innermostAround_6 : decode cX0_innermostAround 6 = .ok (.iconst 1, 1) := by decide +kernel
theorem dX0_innermostAround_7 : decode cX0_innermostAround 7 = .ok (.isub, 1) := by decide +kernel
theorem dX0_innermostAround_8 : decode cX0_innermostAround 8 = .ok (.istore_n 2, 1) := by decide +kernel
theorem dX0_innermostAround_9 : decode cX0_innermostAround 9 = .ok (.iload_n 2, 1) := by decide +kernel
theorem dX0_innermostAround_10 : decode cX0_innermostAround 10 = .ok (.ifCond .lt 55, 3) := by decide +kernel
theorem dX0_innermostAround_13 : decode cX0_innermostAround 13 = .ok (.aload_n 0, 1) := by decide +kernel
theorem dX0_innermostAround_14 : decode cX0_innermostAround 14 = .ok (.getfield 26, 3) := by decide +kernel
theorem dX0_innermostAround_17 : decode cX0_innermostAround 17 = .ok (.iload_n 2, 1) := by decide +kernel
theorem dX0_innermostAround_18 : decode cX0_innermostAround 18 = .ok (.iaload, 1) := by decide +kernel
theorem dX0_innermostAround_19 : decode cX0_innermostAround 19 = .ok (.iconst 2, 1) := by decide +kernel
theorem dX0_innermostAround_20 : decode cX0_innermostAround 20 = .ok (.idiv, 1) := by decide +kernel
theorem dX0_innermostAround_21 : decode cX0_innermostAround 21 = .ok (.istore_n 3, 1) := by decide +kernel
theorem dX0_innermostAround_22 : decode cX0_innermostAround 22 = .ok (.aload_n 0, 1) := by decide +kernel
theorem dX0_innermostAround_23 : decode cX0_innermostAround 23 = .ok (.getfield 26, 3) := by decide +kernel
theorem dX0_innermostAround_26 : decode cX0_innermostAround 26 = .ok (.iload_n 2, 1) := by decide +kernel
theorem dX0_innermostAround_27 : decode cX0_innermostAround 27 = .ok (.iaload, 1) := by decide +kernel
theorem dX0_innermostAround_28 : decode cX0_innermostAround 28 = .ok (.invokestatic 130, 3) := by decide +kernel
theorem dX0_innermostAround_31 : decode cX0_innermostAround 31 = .ok (.ifCond .eq 28, 3) := by decide +kernel
theorem dX0_innermostAround_34 : decode cX0_innermostAround 34 = .ok (.aload_n 0, 1) := by decide +kernel
theorem dX0_innermostAround_35 : decode cX0_innermostAround 35 = .ok (.iload_n 3, 1) := by decide +kernel
theorem dX0_innermostAround_36 : decode cX0_innermostAround 36 = .ok (.invokevirtual 76, 3) := by decide +kernel
theorem dX0_innermostAround_39 : decode cX0_innermostAround 39 = .ok (.ifCond .eq 18, 3) := by decide +kernel
theorem dX0_innermostAround_42 : decode cX0_innermostAround 42 = .ok (.aload_n 0, 1) := by decide +kernel
theorem dX0_innermostAround_43 : decode cX0_innermostAround 43 = .ok (.getfield 19, 3) := by decide +kernel
theorem dX0_innermostAround_46 : decode cX0_innermostAround 46 = .ok (.iload_n 3, 1) := by decide +kernel
theorem dX0_innermostAround_47 : decode cX0_innermostAround 47 = .ok (.iaload, 1) := by decide +kernel
theorem dX0_innermostAround_48 : decode cX0_innermostAround 48 = .ok (.aload_n 0, 1) := by decide +kernel
theorem dX0_innermostAround_49 : decode cX0_innermostAround 49 = .ok (.getfield 16, 3) := by decide +kernel
theorem dX0_innermostAround_52 : decode cX0_innermostAround 52 = .ok (.iload_n 1, 1) := by decide +kernel
theorem dX0_innermostAround_53 : decode cX0_innermostAround 53 = .ok (.iaload, 1) := by decide +kernel
theorem dX0_innermostAround_54 : decode cX0_innermostAround 54 = .ok (.if_icmp .le 5, 3) := by decide +kernel
theorem dX0_innermostAround_57 : decode cX0_innermostAround 57 = .ok (.iload_n 3, 1) := by decide +kernel
theorem dX0_innermostAround_58 : decode cX0_innermostAround 58 = .ok (.ireturn, 1) := by decide +kernel
theorem dX0_innermostAround_59 : decode cX0_innermostAround 59 = .ok (.iinc 2 (-1), 3) := by decide +kernel
theorem dX0_innermostAround_62 : decode cX0_innermostAround 62 = .ok (.goto (-53), 3) := by decide +kernel
theorem dX0_innermostAround_65 : decode cX0_innermostAround 65 = .ok (.iconst (-1), 1) := by decide +kernel
theorem dX0_innermostAround_66 : decode cX0_innermostAround 66 = .ok (.ireturn, 1) := by decide +kernel
theorem dX0_weightWithin_0 : decode cX0_weightWithin 0 = .ok (.aload_n 0, 1) := by decide +kernel
theorem dX0_weightWithin_1 : decode cX0_weightWithin 1 = .ok (.iload_n 1, 1) := by decide +kernel
theorem dX0_weightWithin_2 : decode cX0_weightWithin 2 = .ok (.invokevirtual 76, 3) := by decide +kernel
theorem dX0_weightWithin_5 : decode cX0_weightWithin 5 = .ok (.ifCond .eq 12, 3) := by decide +kernel
theorem dX0_weightWithin_8 : decode cX0_weightWithin 8 = .ok (.aload_n 0, 1) := by decide +kernel
theorem dX0_weightWithin_9 : decode cX0_weightWithin 9 = .ok (.getfield 19, 3) := by decide +kernel
theorem dX0_weightWithin_12 : decode cX0_weightWithin 12 = .ok (.iload_n 1, 1) := by decide +kernel
theorem dX0_weightWithin_13 : decode cX0_weightWithin 13 = .ok (.iaload, 1) := by decide +kernel
theorem dX0_weightWithin_14 : decode cX0_weightWithin 14 = .ok (.goto 7, 3) := by decide +kernel
theorem dX0_weightWithin_17 : decode cX0_weightWithin 17 = .ok (.aload_n 0, 1) := by decide +kernel
theorem dX0_weightWithin_18 : decode cX0_weightWithin 18 = .ok (.getfield 106, 3) := by decide +kernel
theorem dX0_weightWithin_21 : decode cX0_weightWithin 21 = .ok (.istore_n 2, 1) := by decide +kernel
theorem dX0_weightWithin_22 : decode cX0_weightWithin 22 = .ok (.iconst 0, 1) := by decide +kernel
theorem dX0_weightWithin_23 : decode cX0_weightWithin 23 = .ok (.istore_n 3, 1) := by decide +kernel
theorem dX0_weightWithin_24 : decode cX0_weightWithin 24 = .ok (.aload_n 0, 1) := by decide +kernel
theorem dX0_weightWithin_25 : decode cX0_weightWithin 25 = .ok (.getfield 16, 3) := by decide +kernel
theorem dX0_weightWithin_28 : decode cX0_weightWithin 28 = .ok (.iload_n 1, 1) := by decide +kernel
theorem dX0_weightWithin_29 : decode cX0_weightWithin 29 = .ok (.iaload, 1) := by decide +kernel
theorem dX0_weightWithin_30 : decode cX0_weightWithin 30 = .ok (.istore 4, 2) := by decide +kernel
theorem dX0_weightWithin_32 : decode cX0_weightWithin 32 = .ok (.iload 4, 2) := by decide +kernel
theorem dX0_weightWithin_34 : decode cX0_weightWithin 34 = .ok (.iload_n 2, 1) := by decide +kernel
theorem dX0_weightWithin_35 : decode cX0_weightWithin 35 = .ok (.if_icmp .ge 39, 3) := by decide +kernel
theorem dX0_weightWithin_38 : decode cX0_weightWithin 38 = .ok (.aload_n 0, 1) := by decide +kernel
theorem dX0_weightWithin_39 : decode cX0_weightWithin 39 = .ok (.getfield 26, 3) := by decide +kernel
theorem dX0_weightWithin_42 : decode cX0_weightWithin 42 = .ok (.iload 4, 2) := by decide +kernel
theorem dX0_weightWithin_44 : decode cX0_weightWithin 44 = .ok (.iaload, 1) := by decide +kernel
theorem dX0_weightWithin_45 : decode cX0_weightWithin 45 = .ok (.invokestatic 130, 3) := by decide +kernel
theorem dX0_weightWithin_48 : decode cX0_weightWithin 48 = .ok (.ifCond .eq 20, 3) := by decide +kernel
theorem dX0_weightWithin_51 : decode cX0_weightWithin 51 = .ok (.iload_n 3, 1) := by decide +kernel
theorem dX0_weightWithin_52 : decode cX0_weightWithin 52 = .ok (.aload_n 0, 1) := by decide +kernel
theorem dX0_weightWithin_53 : decode cX0_weightWithin 53 = .ok (.getfield 13, 3) := by decide +kernel
theorem dX0_weightWithin_56 : decode cX0_weightWithin 56 = .ok (.aload_n 0, 1) := by decide +kernel
theorem dX0_weightWithin_57 : decode cX0_weightWithin 57 = .ok (.getfield 26, 3) := by decide +kernel
theorem dX0_weightWithin_60 : decode cX0_weightWithin 60 = .ok (.iload 4, 2) := by decide +kernel
theorem dX0_weightWithin_62 : decode cX0_weightWithin 62 = .ok (.iaload, 1) := by decide +kernel
theorem dX0_weightWithin_63 : decode cX0_weightWithin 63 = .ok (.iconst 2, 1) := by decide +kernel
theorem dX0_weightWithin_64 : decode cX0_weightWithin 64 = .ok (.idiv, 1) := by decide +kernel
theorem dX0_weightWithin_65 : decode cX0_weightWithin 65 = .ok (.iaload, 1) := by decide +kernel
theorem dX0_weightWithin_66 : decode cX0_weightWithin 66 = .ok (.iadd, 1) := by decide +kernel
theorem dX0_weightWithin_67 : decode cX0_weightWithin 67 = .ok (.istore_n 3, 1) := by decide +kernel
theorem dX0_weightWithin_68 : decode cX0_weightWithin 68 = .ok (.iinc 4 1, 3) := by decide +kernel
theorem dX0_weightWithin_71 : decode cX0_weightWithin 71 = .ok (.goto (-39), 3) := by decide +kernel
theorem dX0_weightWithin_74 : decode cX0_weightWithin 74 = .ok (.iload_n 3, 1) := by decide +kernel
theorem dX0_weightWithin_75 : decode cX0_weightWithin 75 = .ok (.ireturn, 1) := by decide +kernel
def RX1 : String := "TraceLineModel"
def TX1 : u_T := fun k => match k with
  | 0 => ("TraceLineModel", "thrown", "I", false)
  | 1 => ("TraceLineModel", "there", "[Z", true)
  | 2 => ("TraceLineModel", "keys", "[I", true)
  | 3 => ("TraceLineModel", "weights", "[I", true)
  | 4 => ("TraceLineModel", "isStale", "[Z", true)
  | 5 => ("TraceLineModel", "many", "I", false)
  | 6 => ("TraceLineModel", "whole", "I", false)
  | 7 => ("TraceLineModel", "line", "[I", true)
  | 8 => ("TraceLineModel", "events", "I", false)
  | 9 => ("TraceLineModel", "cursor", "I", false)
  | 10 => ("TraceLineModel", "frames", "I", false)
  | 11 => ("TraceLineModel", "frameOf", "[I", true)
  | 12 => ("TraceLineModel", "taken", "[Z", true)
  | 13 => ("TraceLineModel", "opens", "I", false)
  | 14 => ("TraceLineModel", "open", "[I", true)
  | 15 => ("TraceLineModel", "openIn", "[I", true)
  | _ => ("TraceLineModel", "goes", "[Z", true)
def tyX1 : Nat → FieldType := fun k => match k with
  | 0 => .int
  | 1 => .array .boolean
  | 2 => .array .int
  | 3 => .array .int
  | 4 => .array .boolean
  | 5 => .int
  | 6 => .int
  | 7 => .array .int
  | 8 => .int
  | 9 => .int
  | 10 => .int
  | 11 => .array .int
  | 12 => .array .boolean
  | 13 => .int
  | 14 => .array .int
  | 15 => .array .int
  | _ => .array .boolean
abbrev wsX10 : List Cond := u_ws RX1 TX1 17
theorem nmX1 : ∀ a, a < 17 → ∀ b, b < 17 → a ≠ b → (TX1 a).2.1 ≠ (TX1 b).2.1 := by decide +kernel
theorem tyX1_ok : ∀ k, k < 17 → parseFieldDescriptor (TX1 k).2.2.1 = some (tyX1 k) := by decide +kernel
abbrev cX1_init : ByteArray := prog_3_method_1_code
def yX1_init : MethodName := ⟨RX1, "<init>", "()V"⟩
abbrev cX1_thrown : ByteArray := prog_3_method_2_code
def yX1_thrown : MethodName := ⟨RX1, "thrown", "()I"⟩
abbrev cX1_begin : ByteArray := prog_3_method_12_code
def yX1_begin : MethodName := ⟨RX1, "begin", "(I)I"⟩
abbrev cX1_last : ByteArray := prog_3_method_7_code
def yX1_last : MethodName := ⟨RX1, "last", "()I"⟩
abbrev cX1_put : ByteArray := prog_3_method_4_code
def yX1_put : MethodName := ⟨RX1, "put", "(I)V"⟩
abbrev cX1_end : ByteArray := prog_3_method_13_code
def yX1_end : MethodName := ⟨RX1, "end", "()I"⟩
abbrev cX1_hasOpen : ByteArray := prog_3_method_10_code
def yX1_hasOpen : MethodName := ⟨RX1, "hasOpen", "()Z"⟩
abbrev cX1_weigh : ByteArray := prog_3_method_15_code
def yX1_weigh : MethodName := ⟨RX1, "weigh", "(I)Z"⟩
abbrev cX1_allWeights : ByteArray := prog_3_method_14_code
def yX1_allWeights : MethodName := ⟨RX1, "allWeights", "()J"⟩
abbrev cX1_stale : ByteArray := prog_3_method_16_code
def yX1_stale : MethodName := ⟨RX1, "stale", "(I)Z"⟩
abbrev cX1_isThere : ByteArray := prog_3_method_5_code
def yX1_isThere : MethodName := ⟨RX1, "isThere", "(I)Z"⟩
abbrev cX1_isEnded : ByteArray := prog_3_method_6_code
def yX1_isEnded : MethodName := ⟨RX1, "isEnded", "(I)Z"⟩
abbrev cX1_find : ByteArray := prog_3_method_3_code
def yX1_find : MethodName := ⟨RX1, "find", "(I)I"⟩
abbrev cX1_resume : ByteArray := prog_3_method_18_code
def yX1_resume : MethodName := ⟨RX1, "resume", "()I"⟩
abbrev cX1_limit : ByteArray := prog_3_method_8_code
def yX1_limit : MethodName := ⟨RX1, "limit", "()I"⟩
abbrev cX1_frame : ByteArray := prog_3_method_17_code
def yX1_frame : MethodName := ⟨RX1, "frame", "(IZ)V"⟩
abbrev cX1_take : ByteArray := prog_3_method_19_code
def yX1_take : MethodName := ⟨RX1, "take", "(I)I"⟩
abbrev cX1_isAhead : ByteArray := prog_3_method_9_code
def yX1_isAhead : MethodName := ⟨RX1, "isAhead", "(I)Z"⟩
abbrev cX1_erase : ByteArray := prog_3_method_11_code
def yX1_erase : MethodName := ⟨RX1, "erase", "(II)V"⟩
abbrev cX1_done : ByteArray := prog_3_method_20_code
def yX1_done : MethodName := ⟨RX1, "done", "()I"⟩
abbrev cX1_toEnd : ByteArray := prog_3_method_22_code
def yX1_toEnd : MethodName := ⟨RX1, "toEnd", "()Z"⟩
abbrev cX1_isFree : ByteArray := prog_3_method_21_code
def yX1_isFree : MethodName := ⟨RX1, "isFree", "()Z"⟩
abbrev cX1_toBegin : ByteArray := prog_3_method_23_code
def yX1_toBegin : MethodName := ⟨RX1, "toBegin", "()Z"⟩
abbrev cX1_wipe : ByteArray := prog_3_method_24_code
def yX1_wipe : MethodName := ⟨RX1, "wipe", "()V"⟩
abbrev cX1_of : ByteArray := prog_3_method_28_code
def yX1_of : MethodName := ⟨RX1, "of", "(II)I"⟩
abbrev cX1_around : ByteArray := prog_3_method_26_code
def yX1_around : MethodName := ⟨RX1, "around", "(I)I"⟩
abbrev cX1_endOf : ByteArray := prog_3_method_25_code
def yX1_endOf : MethodName := ⟨RX1, "endOf", "(I)I"⟩
abbrev cX1_sumOf : ByteArray := prog_3_method_27_code
def yX1_sumOf : MethodName := ⟨RX1, "sumOf", "(I)I"⟩
abbrev cX1_event : ByteArray := prog_3_method_29_code
def yX1_event : MethodName := ⟨RX1, "event", "(I)I"⟩
abbrev cX1_look : ByteArray := prog_3_method_30_code
def yX1_look : MethodName := ⟨RX1, "look", "(I)I"⟩
def wM_r0 : List Cond := [Cond.instanceMethod yX1_init, Cond.code yX1_init cX1_init 1 none, Cond.methodLink RX1 1 objectInit, Cond.fieldLink RX1 45 "TraceLineModel" "thrown" "I", Cond.fieldLink RX1 7 "TraceLineModel" "there" "[Z", Cond.fieldLink RX1 13 "TraceLineModel" "keys" "[I", Cond.fieldLink RX1 17 "TraceLineModel" "weights" "[I", Cond.fieldLink RX1 20 "TraceLineModel" "isStale" "[Z", Cond.fieldLink RX1 68 "TraceLineModel" "many" "I", Cond.fieldLink RX1 79 "TraceLineModel" "whole" "I", Cond.fieldLink RX1 23 "TraceLineModel" "line" "[I", Cond.fieldLink RX1 48 "TraceLineModel" "events" "I", Cond.fieldLink RX1 51 "TraceLineModel" "cursor" "I", Cond.fieldLink RX1 26 "TraceLineModel" "frames" "I", Cond.fieldLink RX1 30 "TraceLineModel" "frameOf" "[I", Cond.fieldLink RX1 33 "TraceLineModel" "taken" "[Z", Cond.fieldLink RX1 65 "TraceLineModel" "opens" "I", Cond.fieldLink RX1 36 "TraceLineModel" "open" "[I", Cond.fieldLink RX1 39 "TraceLineModel" "openIn" "[I", Cond.fieldLink RX1 42 "TraceLineModel" "goes" "[Z", Cond.instanceMethod yX1_thrown, Cond.selects RX1 yX1_thrown yX1_thrown, Cond.code yX1_thrown cX1_thrown 1 (some .int), Cond.instanceMethod yX1_begin]
def wM_r1 : List Cond := [Cond.selects RX1 yX1_begin yX1_begin, Cond.code yX1_begin cX1_begin 3 (some .int), Cond.methodLink RX1 58 yX1_last, Cond.instanceMethod yX1_last, Cond.code yX1_last cX1_last 1 (some .int), Cond.methodLink RX1 71 yX1_put, Cond.instanceMethod yX1_put, Cond.code yX1_put cX1_put 3 none, Cond.instanceMethod yX1_end, Cond.selects RX1 yX1_end yX1_end, Cond.code yX1_end cX1_end 1 (some .int), Cond.methodLink RX1 75 yX1_hasOpen, Cond.instanceMethod yX1_hasOpen, Cond.code yX1_hasOpen cX1_hasOpen 1 (some .boolean), Cond.instanceMethod yX1_weigh, Cond.selects RX1 yX1_weigh yX1_weigh, Cond.code yX1_weigh cX1_weigh 3 (some .boolean), Cond.methodLink RX1 82 yX1_allWeights, Cond.instanceMethod yX1_allWeights, Cond.code yX1_allWeights cX1_allWeights 4 (some .long), Cond.constantLong RX1 86 1000000000, Cond.instanceMethod yX1_stale, Cond.selects RX1 yX1_stale yX1_stale, Cond.code yX1_stale cX1_stale 2 (some .boolean)]
def wM_r2 : List Cond := [Cond.methodLink RX1 88 yX1_isThere, Cond.instanceMethod yX1_isThere, Cond.code yX1_isThere cX1_isThere 2 (some .boolean), Cond.methodLink RX1 92 yX1_isEnded, Cond.instanceMethod yX1_isEnded, Cond.code yX1_isEnded cX1_isEnded 2 (some .boolean), Cond.methodLink RX1 54 yX1_find, Cond.instanceMethod yX1_find, Cond.code yX1_find cX1_find 3 (some .int), Cond.instanceMethod yX1_resume, Cond.selects RX1 yX1_resume yX1_resume, Cond.code yX1_resume cX1_resume 5 (some .int), Cond.methodLink RX1 62 yX1_limit, Cond.instanceMethod yX1_limit, Cond.code yX1_limit cX1_limit 1 (some .int), Cond.methodLink RX1 95 yX1_frame, Cond.instanceMethod yX1_frame, Cond.code yX1_frame cX1_frame 3 none, Cond.instanceMethod yX1_take, Cond.selects RX1 yX1_take yX1_take, Cond.code yX1_take cX1_take 5 (some .int), Cond.methodLink RX1 99 yX1_isAhead, Cond.instanceMethod yX1_isAhead, Cond.code yX1_isAhead cX1_isAhead 2 (some .boolean)]
def wM_r3 : List Cond := [Cond.methodLink RX1 102 yX1_erase, Cond.instanceMethod yX1_erase, Cond.code yX1_erase cX1_erase 6 none, Cond.instanceMethod yX1_done, Cond.selects RX1 yX1_done yX1_done, Cond.code yX1_done cX1_done 2 (some .int), Cond.instanceMethod yX1_toEnd, Cond.selects RX1 yX1_toEnd yX1_toEnd, Cond.code yX1_toEnd cX1_toEnd 1 (some .boolean), Cond.methodLink RX1 106 yX1_isFree, Cond.instanceMethod yX1_isFree, Cond.code yX1_isFree cX1_isFree 1 (some .boolean), Cond.instanceMethod yX1_toBegin, Cond.selects RX1 yX1_toBegin yX1_toBegin, Cond.code yX1_toBegin cX1_toBegin 1 (some .boolean), Cond.instanceMethod yX1_wipe, Cond.selects RX1 yX1_wipe yX1_wipe, Cond.code yX1_wipe cX1_wipe 2 none, Cond.instanceMethod yX1_of, Cond.selects RX1 yX1_of yX1_of, Cond.code yX1_of cX1_of 3 (some .int), Cond.methodLink RX1 112 yX1_around, Cond.instanceMethod yX1_around, Cond.code yX1_around cX1_around 5 (some .int)]
def wM_r4 : List Cond := [Cond.methodLink RX1 109 yX1_endOf, Cond.instanceMethod yX1_endOf, Cond.code yX1_endOf cX1_endOf 3 (some .int), Cond.methodLink RX1 115 yX1_sumOf, Cond.instanceMethod yX1_sumOf, Cond.code yX1_sumOf cX1_sumOf 4 (some .int), Cond.instanceMethod yX1_event, Cond.selects RX1 yX1_event yX1_event, Cond.code yX1_event cX1_event 2 (some .int), Cond.instanceMethod yX1_look, Cond.selects RX1 yX1_look yX1_look, Cond.code yX1_look cX1_look 4 (some .int), Cond.selects RX1 yX1_last yX1_last, Cond.selects RX1 yX1_put yX1_put, Cond.selects RX1 yX1_hasOpen yX1_hasOpen, Cond.selects RX1 yX1_allWeights yX1_allWeights, Cond.selects RX1 yX1_isThere yX1_isThere, Cond.selects RX1 yX1_isEnded yX1_isEnded, Cond.selects RX1 yX1_find yX1_find, Cond.selects RX1 yX1_limit yX1_limit, Cond.selects RX1 yX1_frame yX1_frame, Cond.selects RX1 yX1_isAhead yX1_isAhead, Cond.selects RX1 yX1_erase yX1_erase, Cond.selects RX1 yX1_isFree yX1_isFree]
def wM_r5 : List Cond := [Cond.selects RX1 yX1_around yX1_around, Cond.selects RX1 yX1_endOf yX1_endOf, Cond.selects RX1 yX1_sumOf yX1_sumOf, Cond.initialized RX1, Cond.arrayClass .int, Cond.arrayClass .boolean, Cond.instanceMethod objectInit, Cond.code objectInit ⟨#[0xb1]⟩ 1 none]
def wsM_ : List Cond := wM_r0 ++ (wM_r1 ++ (wM_r2 ++ (wM_r3 ++ (wM_r4 ++ (wM_r5 ++ (wsX10))))))
theorem inwM_ : ∀ w ∈ wsX10, w ∈ wsM_ := fun w h => List.mem_append_right _ (List.mem_append_right _ (List.mem_append_right _ (List.mem_append_right _ (List.mem_append_right _ (List.mem_append_right _ (h))))))
theorem mM_im_init : Cond.instanceMethod yX1_init ∈ wsM_ := List.mem_append_left _ (List.mem_of_getElem? (i := 0) rfl)
theorem mM_co_init : Cond.code yX1_init cX1_init 1 none ∈ wsM_ := List.mem_append_left _ (List.mem_of_getElem? (i := 1) rfl)
theorem mM_ml_1 : Cond.methodLink RX1 1 objectInit ∈ wsM_ := List.mem_append_left _ (List.mem_of_getElem? (i := 2) rfl)
theorem mM_fl_45 : Cond.fieldLink RX1 45 "TraceLineModel" "thrown" "I" ∈ wsM_ := List.mem_append_left _ (List.mem_of_getElem? (i := 3) rfl)
theorem mM_fl_7 : Cond.fieldLink RX1 7 "TraceLineModel" "there" "[Z" ∈ wsM_ := List.mem_append_left _ (List.mem_of_getElem? (i := 4) rfl)
theorem mM_fl_13 : Cond.fieldLink RX1 13 "TraceLineModel" "keys" "[I" ∈ wsM_ := List.mem_append_left _ (List.mem_of_getElem? (i := 5) rfl)
theorem mM_fl_17 : Cond.fieldLink RX1 17 "TraceLineModel" "weights" "[I" ∈ wsM_ := List.mem_append_left _ (List.mem_of_getElem? (i := 6) rfl)
theorem mM_fl_20 : Cond.fieldLink RX1 20 "TraceLineModel" "isStale" "[Z" ∈ wsM_ := List.mem_append_left _ (List.mem_of_getElem? (i := 7) rfl)
theorem mM_fl_68 : Cond.fieldLink RX1 68 "TraceLineModel" "many" "I" ∈ wsM_ := List.mem_append_left _ (List.mem_of_getElem? (i := 8) rfl)
theorem mM_fl_79 : Cond.fieldLink RX1 79 "TraceLineModel" "whole" "I" ∈ wsM_ := List.mem_append_left _ (List.mem_of_getElem? (i := 9) rfl)
theorem mM_fl_23 : Cond.fieldLink RX1 23 "TraceLineModel" "line" "[I" ∈ wsM_ := List.mem_append_left _ (List.mem_of_getElem? (i := 10) rfl)
theorem mM_fl_48 : Cond.fieldLink RX1 48 "TraceLineModel" "events" "I" ∈ wsM_ := List.mem_append_left _ (List.mem_of_getElem? (i := 11) rfl)
theorem mM_fl_51 : Cond.fieldLink RX1 51 "TraceLineModel" "cursor" "I" ∈ wsM_ := List.mem_append_left _ (List.mem_of_getElem? (i := 12) rfl)
theorem mM_fl_26 : Cond.fieldLink RX1 26 "TraceLineModel" "frames" "I" ∈ wsM_ := List.mem_append_left _ (List.mem_of_getElem? (i := 13) rfl)
theorem mM_fl_30 : Cond.fieldLink RX1 30 "TraceLineModel" "frameOf" "[I" ∈ wsM_ := List.mem_append_left _ (List.mem_of_getElem? (i := 14) rfl)
theorem mM_fl_33 : Cond.fieldLink RX1 33 "TraceLineModel" "taken" "[Z" ∈ wsM_ := List.mem_append_left _ (List.mem_of_getElem? (i := 15) rfl)
theorem mM_fl_65 : Cond.fieldLink RX1 65 "TraceLineModel" "opens" "I" ∈ wsM_ := List.mem_append_left _ (List.mem_of_getElem? (i := 16) rfl)
theorem mM_fl_36 : Cond.fieldLink RX1 36 "TraceLineModel" "open" "[I" ∈ wsM_ := List.mem_append_left _ (List.mem_of_getElem? (i := 17) rfl)
theorem mM_fl_39 : Cond.fieldLink RX1 39 "TraceLineModel" "openIn" "[I" ∈ wsM_ := List.mem_append_left _ (List.mem_of_getElem? (i := 18) rfl)
theorem mM_fl_42 : Cond.fieldLink RX1 42 "TraceLineModel" "goes" "[Z" ∈ wsM_ := List.mem_append_left _ (List.mem_of_getElem? (i := 19) rfl)
theorem mM_im_thrown : Cond.instanceMethod yX1_thrown ∈ wsM_ := List.mem_append_left _ (List.mem_of_getElem? (i := 20) rfl)
theorem mM_se_thrown : Cond.selects RX1 yX1_thrown yX1_thrown ∈ wsM_ := List.mem_append_left _ (List.mem_of_getElem? (i := 21) rfl)
theorem mM_co_thrown : Cond.code yX1_thrown cX1_thrown 1 (some .int) ∈ wsM_ := List.mem_append_left _ (List.mem_of_getElem? (i := 22) rfl)
theorem mM_im_begin : Cond.instanceMethod yX1_begin ∈ wsM_ := List.mem_append_left _ (List.mem_of_getElem? (i := 23) rfl)
theorem mM_se_begin : Cond.selects RX1 yX1_begin yX1_begin ∈ wsM_ := List.mem_append_right _ (List.mem_append_left _ (List.mem_of_getElem? (i := 0) rfl))
theorem mM_co_begin : Cond.code yX1_begin cX1_begin 3 (some .int) ∈ wsM_ := List.mem_append_right _ (List.mem_append_left _ (List.mem_of_getElem? (i := 1) rfl))
theorem mM_ml_58 : Cond.methodLink RX1 58 yX1_last ∈ wsM_ := List.mem_append_right _ (List.mem_append_left _ (List.mem_of_getElem? (i := 2) rfl))
theorem mM_im_last : Cond.instanceMethod yX1_last ∈ wsM_ := List.mem_append_right _ (List.mem_append_left _ (List.mem_of_getElem? (i := 3) rfl))
theorem mM_co_last : Cond.code yX1_last cX1_last 1 (some .int) ∈ wsM_ := List.mem_append_right _ (List.mem_append_left _ (List.mem_of_getElem? (i := 4) rfl))
theorem mM_ml_71 : Cond.methodLink RX1 71 yX1_put ∈ wsM_ := List.mem_append_right _ (List.mem_append_left _ (List.mem_of_getElem? (i := 5) rfl))
theorem mM_im_put : Cond.instanceMethod yX1_put ∈ wsM_ := List.mem_append_right _ (List.mem_append_left _ (List.mem_of_getElem? (i := 6) rfl))
theorem mM_co_put : Cond.code yX1_put cX1_put 3 none ∈ wsM_ := List.mem_append_right _ (List.mem_append_left _ (List.mem_of_getElem? (i := 7) rfl))
theorem mM_im_end : Cond.instanceMethod yX1_end ∈ wsM_ := List.mem_append_right _ (List.mem_append_left _ (List.mem_of_getElem? (i := 8) rfl))
theorem mM_se_end : Cond.selects RX1 yX1_end yX1_end ∈ wsM_ := List.mem_append_right _ (List.mem_append_left _ (List.mem_of_getElem? (i := 9) rfl))
theorem mM_co_end : Cond.code yX1_end cX1_end 1 (some .int) ∈ wsM_ := List.mem_append_right _ (List.mem_append_left _ (List.mem_of_getElem? (i := 10) rfl))
theorem mM_ml_75 : Cond.methodLink RX1 75 yX1_hasOpen ∈ wsM_ := List.mem_append_right _ (List.mem_append_left _ (List.mem_of_getElem? (i := 11) rfl))
theorem mM_im_hasOpen : Cond.instanceMethod yX1_hasOpen ∈ wsM_ := List.mem_append_right _ (List.mem_append_left _ (List.mem_of_getElem? (i := 12) rfl))
theorem mM_co_hasOpen : Cond.code yX1_hasOpen cX1_hasOpen 1 (some .boolean) ∈ wsM_ := List.mem_append_right _ (List.mem_append_left _ (List.mem_of_getElem? (i := 13) rfl))
theorem mM_im_weigh : Cond.instanceMethod yX1_weigh ∈ wsM_ := List.mem_append_right _ (List.mem_append_left _ (List.mem_of_getElem? (i := 14) rfl))
theorem mM_se_weigh : Cond.selects RX1 yX1_weigh yX1_weigh ∈ wsM_ := List.mem_append_right _ (List.mem_append_left _ (List.mem_of_getElem? (i := 15) rfl))
theorem mM_co_weigh : Cond.code yX1_weigh cX1_weigh 3 (some .boolean) ∈ wsM_ := List.mem_append_right _ (List.mem_append_left _ (List.mem_of_getElem? (i := 16) rfl))
theorem mM_ml_82 : Cond.methodLink RX1 82 yX1_allWeights ∈ wsM_ := List.mem_append_right _ (List.mem_append_left _ (List.mem_of_getElem? (i := 17) rfl))
theorem mM_im_allWeights : Cond.instanceMethod yX1_allWeights ∈ wsM_ := List.mem_append_right _ (List.mem_append_left _ (List.mem_of_getElem? (i := 18) rfl))
theorem mM_co_allWeights : Cond.code yX1_allWeights cX1_allWeights 4 (some .long) ∈ wsM_ := List.mem_append_right _ (List.mem_append_left _ (List.mem_of_getElem? (i := 19) rfl))
theorem mM_cn_86 : Cond.constantLong RX1 86 1000000000 ∈ wsM_ := List.mem_append_right _ (List.mem_append_left _ (List.mem_of_getElem? (i := 20) rfl))
theorem mM_im_stale : Cond.instanceMethod yX1_stale ∈ wsM_ := List.mem_append_right _ (List.mem_append_left _ (List.mem_of_getElem? (i := 21) rfl))
theorem mM_se_stale : Cond.selects RX1 yX1_stale yX1_stale ∈ wsM_ := List.mem_append_right _ (List.mem_append_left _ (List.mem_of_getElem? (i := 22) rfl))
theorem mM_co_stale : Cond.code yX1_stale cX1_stale 2 (some .boolean) ∈ wsM_ := List.mem_append_right _ (List.mem_append_left _ (List.mem_of_getElem? (i := 23) rfl))
theorem mM_ml_88 : Cond.methodLink RX1 88 yX1_isThere ∈ wsM_ := List.mem_append_right _ (List.mem_append_right _ (List.mem_append_left _ (List.mem_of_getElem? (i := 0) rfl)))
theorem mM_im_isThere : Cond.instanceMethod yX1_isThere ∈ wsM_ := List.mem_append_right _ (List.mem_append_right _ (List.mem_append_left _ (List.mem_of_getElem? (i := 1) rfl)))
theorem mM_co_isThere : Cond.code yX1_isThere cX1_isThere 2 (some .boolean) ∈ wsM_ := List.mem_append_right _ (List.mem_append_right _ (List.mem_append_left _ (List.mem_of_getElem? (i := 2) rfl)))
theorem mM_ml_92 : Cond.methodLink RX1 92 yX1_isEnded ∈ wsM_ := List.mem_append_right _ (List.mem_append_right _ (List.mem_append_left _ (List.mem_of_getElem? (i := 3) rfl)))
theorem mM_im_isEnded : Cond.instanceMethod yX1_isEnded ∈ wsM_ := List.mem_append_right _ (List.mem_append_right _ (List.mem_append_left _ (List.mem_of_getElem? (i := 4) rfl)))
theorem mM_co_isEnded : Cond.code yX1_isEnded cX1_isEnded 2 (some .boolean) ∈ wsM_ := List.mem_append_right _ (List.mem_append_right _ (List.mem_append_left _ (List.mem_of_getElem? (i := 5) rfl)))
theorem mM_ml_54 : Cond.methodLink RX1 54 yX1_find ∈ wsM_ := List.mem_append_right _ (List.mem_append_right _ (List.mem_append_left _ (List.mem_of_getElem? (i := 6) rfl)))
theorem mM_im_find : Cond.instanceMethod yX1_find ∈ wsM_ := List.mem_append_right _ (List.mem_append_right _ (List.mem_append_left _ (List.mem_of_getElem? (i := 7) rfl)))
theorem mM_co_find : Cond.code yX1_find cX1_find 3 (some .int) ∈ wsM_ := List.mem_append_right _ (List.mem_append_right _ (List.mem_append_left _ (List.mem_of_getElem? (i := 8) rfl)))
theorem mM_im_resume : Cond.instanceMethod yX1_resume ∈ wsM_ := List.mem_append_right _ (List.mem_append_right _ (List.mem_append_left _ (List.mem_of_getElem? (i := 9) rfl)))
theorem mM_se_resume : Cond.selects RX1 yX1_resume yX1_resume ∈ wsM_ := List.mem_append_right _ (List.mem_append_right _ (List.mem_append_left _ (List.mem_of_getElem? (i := 10) rfl)))
theorem mM_co_resume : Cond.code yX1_resume cX1_resume 5 (some .int) ∈ wsM_ := List.mem_append_right _ (List.mem_append_right _ (List.mem_append_left _ (List.mem_of_getElem? (i := 11) rfl)))
theorem mM_ml_62 : Cond.methodLink RX1 62 yX1_limit ∈ wsM_ := List.mem_append_right _ (List.mem_append_right _ (List.mem_append_left _ (List.mem_of_getElem? (i := 12) rfl)))
theorem mM_im_limit : Cond.instanceMethod yX1_limit ∈ wsM_ := List.mem_append_right _ (List.mem_append_right _ (List.mem_append_left _ (List.mem_of_getElem? (i := 13) rfl)))
theorem mM_co_limit : Cond.code yX1_limit cX1_limit 1 (some .int) ∈ wsM_ := List.mem_append_right _ (List.mem_append_right _ (List.mem_append_left _ (List.mem_of_getElem? (i := 14) rfl)))
theorem mM_ml_95 : Cond.methodLink RX1 95 yX1_frame ∈ wsM_ := List.mem_append_right _ (List.mem_append_right _ (List.mem_append_left _ (List.mem_of_getElem? (i := 15) rfl)))
theorem mM_im_frame : Cond.instanceMethod yX1_frame ∈ wsM_ := List.mem_append_right _ (List.mem_append_right _ (List.mem_append_left _ (List.mem_of_getElem? (i := 16) rfl)))
theorem mM_co_frame : Cond.code yX1_frame cX1_frame 3 none ∈ wsM_ := List.mem_append_right _ (List.mem_append_right _ (List.mem_append_left _ (List.mem_of_getElem? (i := 17) rfl)))
theorem mM_im_take : Cond.instanceMethod yX1_take ∈ wsM_ := List.mem_append_right _ (List.mem_append_right _ (List.mem_append_left _ (List.mem_of_getElem? (i := 18) rfl)))
theorem mM_se_take : Cond.selects RX1 yX1_take yX1_take ∈ wsM_ := List.mem_append_right _ (List.mem_append_right _ (List.mem_append_left _ (List.mem_of_getElem? (i := 19) rfl)))
theorem mM_co_take : Cond.code yX1_take cX1_take 5 (some .int) ∈ wsM_ := List.mem_append_right _ (List.mem_append_right _ (List.mem_append_left _ (List.mem_of_getElem? (i := 20) rfl)))
theorem mM_ml_99 : Cond.methodLink RX1 99 yX1_isAhead ∈ wsM_ := List.mem_append_right _ (List.mem_append_right _ (List.mem_append_left _ (List.mem_of_getElem? (i := 21) rfl)))
theorem mM_im_isAhead : Cond.instanceMethod yX1_isAhead ∈ wsM_ := List.mem_append_right _ (List.mem_append_right _ (List.mem_append_left _ (List.mem_of_getElem? (i := 22) rfl)))
theorem mM_co_isAhead : Cond.code yX1_isAhead cX1_isAhead 2 (some .boolean) ∈ wsM_ := List.mem_append_right _ (List.mem_append_right _ (List.mem_append_left _ (List.mem_of_getElem? (i := 23) rfl)))
theorem mM_ml_102 : Cond.methodLink RX1 102 yX1_erase ∈ wsM_ := List.mem_append_right _ (List.mem_append_right _ (List.mem_append_right _ (List.mem_append_left _ (List.mem_of_getElem? (i := 0) rfl))))
theorem mM_im_erase : Cond.instanceMethod yX1_erase ∈ wsM_ := List.mem_append_right _ (List.mem_append_right _ (List.mem_append_right _ (List.mem_append_left _ (List.mem_of_getElem? (i := 1) rfl))))
theorem mM_co_erase : Cond.code yX1_erase cX1_erase 6 none ∈ wsM_ := List.mem_append_right _ (List.mem_append_right _ (List.mem_append_right _ (List.mem_append_left _ (List.mem_of_getElem? (i := 2) rfl))))
theorem mM_im_done : Cond.instanceMethod yX1_done ∈ wsM_ := List.mem_append_right _ (List.mem_append_right _ (List.mem_append_right _ (List.mem_append_left _ (List.mem_of_getElem? (i := 3) rfl))))
theorem mM_se_done : Cond.selects RX1 yX1_done yX1_done ∈ wsM_ := List.mem_append_right _ (List.mem_append_right _ (List.mem_append_right _ (List.mem_append_left _ (List.mem_of_getElem? (i := 4) rfl))))
theorem mM_co_done : Cond.code yX1_done cX1_done 2 (some .int) ∈ wsM_ := List.mem_append_right _ (List.mem_append_right _ (List.mem_append_right _ (List.mem_append_left _ (List.mem_of_getElem? (i := 5) rfl))))
theorem mM_im_toEnd : Cond.instanceMethod yX1_toEnd ∈ wsM_ := List.mem_append_right _ (List.mem_append_right _ (List.mem_append_right _ (List.mem_append_left _ (List.mem_of_getElem? (i := 6) rfl))))
theorem mM_se_toEnd : Cond.selects RX1 yX1_toEnd yX1_toEnd ∈ wsM_ := List.mem_append_right _ (List.mem_append_right _ (List.mem_append_right _ (List.mem_append_left _ (List.mem_of_getElem? (i := 7) rfl))))
theorem mM_co_toEnd : Cond.code yX1_toEnd cX1_toEnd 1 (some .boolean) ∈ wsM_ := List.mem_append_right _ (List.mem_append_right _ (List.mem_append_right _ (List.mem_append_left _ (List.mem_of_getElem? (i := 8) rfl))))
theorem mM_ml_106 : Cond.methodLink RX1 106 yX1_isFree ∈ wsM_ := List.mem_append_right _ (List.mem_append_right _ (List.mem_append_right _ (List.mem_append_left _ (List.mem_of_getElem? (i := 9) rfl))))
theorem mM_im_isFree : Cond.instanceMethod yX1_isFree ∈ wsM_ := List.mem_append_right _ (List.mem_append_right _ (List.mem_append_right _ (List.mem_append_left _ (List.mem_of_getElem? (i := 10) rfl))))
theorem mM_co_isFree : Cond.code yX1_isFree cX1_isFree 1 (some .boolean) ∈ wsM_ := List.mem_append_right _ (List.mem_append_right _ (List.mem_append_right _ (List.mem_append_left _ (List.mem_of_getElem? (i := 11) rfl))))
theorem mM_im_toBegin : Cond.instanceMethod yX1_toBegin ∈ wsM_ := List.mem_append_right _ (List.mem_append_right _ (List.mem_append_right _ (List.mem_append_left _ (List.mem_of_getElem? (i := 12) rfl))))
theorem mM_se_toBegin : Cond.selects RX1 yX1_toBegin yX1_toBegin ∈ wsM_ := List.mem_append_right _ (List.mem_append_right _ (List.mem_append_right _ (List.mem_append_left _ (List.mem_of_getElem? (i := 13) rfl))))
theorem mM_co_toBegin : Cond.code yX1_toBegin cX1_toBegin 1 (some .boolean) ∈ wsM_ := List.mem_append_right _ (List.mem_append_right _ (List.mem_append_right _ (List.mem_append_left _ (List.mem_of_getElem? (i := 14) rfl))))
theorem mM_im_wipe : Cond.instanceMethod yX1_wipe ∈ wsM_ := List.mem_append_right _ (List.mem_append_right _ (List.mem_append_right _ (List.mem_append_left _ (List.mem_of_getElem? (i := 15) rfl))))
theorem mM_se_wipe : Cond.selects RX1 yX1_wipe yX1_wipe ∈ wsM_ := List.mem_append_right _ (List.mem_append_right _ (List.mem_append_right _ (List.mem_append_left _ (List.mem_of_getElem? (i := 16) rfl))))
theorem mM_co_wipe : Cond.code yX1_wipe cX1_wipe 2 none ∈ wsM_ := List.mem_append_right _ (List.mem_append_right _ (List.mem_append_right _ (List.mem_append_left _ (List.mem_of_getElem? (i := 17) rfl))))
theorem mM_im_of : Cond.instanceMethod yX1_of ∈ wsM_ := List.mem_append_right _ (List.mem_append_right _ (List.mem_append_right _ (List.mem_append_left _ (List.mem_of_getElem? (i := 18) rfl))))
theorem mM_se_of : Cond.selects RX1 yX1_of yX1_of ∈ wsM_ := List.mem_append_right _ (List.mem_append_right _ (List.mem_append_right _ (List.mem_append_left _ (List.mem_of_getElem? (i := 19) rfl))))
theorem mM_co_of : Cond.code yX1_of cX1_of 3 (some .int) ∈ wsM_ := List.mem_append_right _ (List.mem_append_right _ (List.mem_append_right _ (List.mem_append_left _ (List.mem_of_getElem? (i := 20) rfl))))
theorem mM_ml_112 : Cond.methodLink RX1 112 yX1_around ∈ wsM_ := List.mem_append_right _ (List.mem_append_right _ (List.mem_append_right _ (List.mem_append_left _ (List.mem_of_getElem? (i := 21) rfl))))
theorem mM_im_around : Cond.instanceMethod yX1_around ∈ wsM_ := List.mem_append_right _ (List.mem_append_right _ (List.mem_append_right _ (List.mem_append_left _ (List.mem_of_getElem? (i := 22) rfl))))
theorem mM_co_around : Cond.code yX1_around cX1_around 5 (some .int) ∈ wsM_ := List.mem_append_right _ (List.mem_append_right _ (List.mem_append_right _ (List.mem_append_left _ (List.mem_of_getElem? (i := 23) rfl))))
theorem mM_ml_109 : Cond.methodLink RX1 109 yX1_endOf ∈ wsM_ := List.mem_append_right _ (List.mem_append_right _ (List.mem_append_right _ (List.mem_append_right _ (List.mem_append_left _ (List.mem_of_getElem? (i := 0) rfl)))))
theorem mM_im_endOf : Cond.instanceMethod yX1_endOf ∈ wsM_ := List.mem_append_right _ (List.mem_append_right _ (List.mem_append_right _ (List.mem_append_right _ (List.mem_append_left _ (List.mem_of_getElem? (i := 1) rfl)))))
theorem mM_co_endOf : Cond.code yX1_endOf cX1_endOf 3 (some .int) ∈ wsM_ := List.mem_append_right _ (List.mem_append_right _ (List.mem_append_right _ (List.mem_append_right _ (List.mem_append_left _ (List.mem_of_getElem? (i := 2) rfl)))))
theorem mM_ml_115 : Cond.methodLink RX1 115 yX1_sumOf ∈ wsM_ := List.mem_append_right _ (List.mem_append_right _ (List.mem_append_right _ (List.mem_append_right _ (List.mem_append_left _ (List.mem_of_getElem? (i := 3) rfl)))))
theorem mM_im_sumOf : Cond.instanceMethod yX1_sumOf ∈ wsM_ := List.mem_append_right _ (List.mem_append_right _ (List.mem_append_right _ (List.mem_append_right _ (List.mem_append_left _ (List.mem_of_getElem? (i := 4) rfl)))))
theorem mM_co_sumOf : Cond.code yX1_sumOf cX1_sumOf 4 (some .int) ∈ wsM_ := List.mem_append_right _ (List.mem_append_right _ (List.mem_append_right _ (List.mem_append_right _ (List.mem_append_left _ (List.mem_of_getElem? (i := 5) rfl)))))
theorem mM_im_event : Cond.instanceMethod yX1_event ∈ wsM_ := List.mem_append_right _ (List.mem_append_right _ (List.mem_append_right _ (List.mem_append_right _ (List.mem_append_left _ (List.mem_of_getElem? (i := 6) rfl)))))
theorem mM_se_event : Cond.selects RX1 yX1_event yX1_event ∈ wsM_ := List.mem_append_right _ (List.mem_append_right _ (List.mem_append_right _ (List.mem_append_right _ (List.mem_append_left _ (List.mem_of_getElem? (i := 7) rfl)))))
theorem mM_co_event : Cond.code yX1_event cX1_event 2 (some .int) ∈ wsM_ := List.mem_append_right _ (List.mem_append_right _ (List.mem_append_right _ (List.mem_append_right _ (List.mem_append_left _ (List.mem_of_getElem? (i := 8) rfl)))))
theorem mM_im_look : Cond.instanceMethod yX1_look ∈ wsM_ := List.mem_append_right _ (List.mem_append_right _ (List.mem_append_right _ (List.mem_append_right _ (List.mem_append_left _ (List.mem_of_getElem? (i := 9) rfl)))))
theorem mM_se_look : Cond.selects RX1 yX1_look yX1_look ∈ wsM_ := List.mem_append_right _ (List.mem_append_right _ (List.mem_append_right _ (List.mem_append_right _ (List.mem_append_left _ (List.mem_of_getElem? (i := 10) rfl)))))
theorem mM_co_look : Cond.code yX1_look cX1_look 4 (some .int) ∈ wsM_ := List.mem_append_right _ (List.mem_append_right _ (List.mem_append_right _ (List.mem_append_right _ (List.mem_append_left _ (List.mem_of_getElem? (i := 11) rfl)))))
theorem mM_se_last : Cond.selects RX1 yX1_last yX1_last ∈ wsM_ := List.mem_append_right _ (List.mem_append_right _ (List.mem_append_right _ (List.mem_append_right _ (List.mem_append_left _ (List.mem_of_getElem? (i := 12) rfl)))))
theorem mM_se_put : Cond.selects RX1 yX1_put yX1_put ∈ wsM_ := List.mem_append_right _ (List.mem_append_right _ (List.mem_append_right _ (List.mem_append_right _ (List.mem_append_left _ (List.mem_of_getElem? (i := 13) rfl)))))
theorem mM_se_hasOpen : Cond.selects RX1 yX1_hasOpen yX1_hasOpen ∈ wsM_ := List.mem_append_right _ (List.mem_append_right _ (List.mem_append_right _ (List.mem_append_right _ (List.mem_append_left _ (List.mem_of_getElem? (i := 14) rfl)))))
theorem mM_se_allWeights : Cond.selects RX1 yX1_allWeights yX1_allWeights ∈ wsM_ := List.mem_append_right _ (List.mem_append_right _ (List.mem_append_right _ (List.mem_append_right _ (List.mem_append_left _ (List.mem_of_getElem? (i := 15) rfl)))))
theorem mM_se_isThere : Cond.selects RX1 yX1_isThere yX1_isThere ∈ wsM_ := List.mem_append_right _ (List.mem_append_right _ (List.mem_append_right _ (List.mem_append_right _ (List.mem_append_left _ (List.mem_of_getElem? (i := 16) rfl)))))
theorem mM_se_isEnded : Cond.selects RX1 yX1_isEnded yX1_isEnded ∈ wsM_ := List.mem_append_right _ (List.mem_append_right _ (List.mem_append_right _ (List.mem_append_right _ (List.mem_append_left _ (List.mem_of_getElem? (i := 17) rfl)))))
theorem mM_se_find : Cond.selects RX1 yX1_find yX1_find ∈ wsM_ := List.mem_append_right _ (List.mem_append_right _ (List.mem_append_right _ (List.mem_append_right _ (List.mem_append_left _ (List.mem_of_getElem? (i := 18) rfl)))))
theorem mM_se_limit : Cond.selects RX1 yX1_limit yX1_limit ∈ wsM_ := List.mem_append_right _ (List.mem_append_right _ (List.mem_append_right _ (List.mem_append_right _ (List.mem_append_left _ (List.mem_of_getElem? (i := 19) rfl)))))
theorem mM_se_frame : Cond.selects RX1 yX1_frame yX1_frame ∈ wsM_ := List.mem_append_right _ (List.mem_append_right _ (List.mem_append_right _ (List.mem_append_right _ (List.mem_append_left _ (List.mem_of_getElem? (i := 20) rfl)))))
theorem mM_se_isAhead : Cond.selects RX1 yX1_isAhead yX1_isAhead ∈ wsM_ := List.mem_append_right _ (List.mem_append_right _ (List.mem_append_right _ (List.mem_append_right _ (List.mem_append_left _ (List.mem_of_getElem? (i := 21) rfl)))))
theorem mM_se_erase : Cond.selects RX1 yX1_erase yX1_erase ∈ wsM_ := List.mem_append_right _ (List.mem_append_right _ (List.mem_append_right _ (List.mem_append_right _ (List.mem_append_left _ (List.mem_of_getElem? (i := 22) rfl)))))
theorem mM_se_isFree : Cond.selects RX1 yX1_isFree yX1_isFree ∈ wsM_ := List.mem_append_right _ (List.mem_append_right _ (List.mem_append_right _ (List.mem_append_right _ (List.mem_append_left _ (List.mem_of_getElem? (i := 23) rfl)))))
theorem mM_se_around : Cond.selects RX1 yX1_around yX1_around ∈ wsM_ := List.mem_append_right _ (List.mem_append_right _ (List.mem_append_right _ (List.mem_append_right _ (List.mem_append_right _ (List.mem_append_left _ (List.mem_of_getElem? (i := 0) rfl))))))
theorem mM_se_endOf : Cond.selects RX1 yX1_endOf yX1_endOf ∈ wsM_ := List.mem_append_right _ (List.mem_append_right _ (List.mem_append_right _ (List.mem_append_right _ (List.mem_append_right _ (List.mem_append_left _ (List.mem_of_getElem? (i := 1) rfl))))))
theorem mM_se_sumOf : Cond.selects RX1 yX1_sumOf yX1_sumOf ∈ wsM_ := List.mem_append_right _ (List.mem_append_right _ (List.mem_append_right _ (List.mem_append_right _ (List.mem_append_right _ (List.mem_append_left _ (List.mem_of_getElem? (i := 2) rfl))))))
theorem mM_in_ : Cond.initialized RX1 ∈ wsM_ := List.mem_append_right _ (List.mem_append_right _ (List.mem_append_right _ (List.mem_append_right _ (List.mem_append_right _ (List.mem_append_left _ (List.mem_of_getElem? (i := 3) rfl))))))
theorem mM_ac_i : Cond.arrayClass .int ∈ wsM_ := List.mem_append_right _ (List.mem_append_right _ (List.mem_append_right _ (List.mem_append_right _ (List.mem_append_right _ (List.mem_append_left _ (List.mem_of_getElem? (i := 4) rfl))))))
theorem mM_ac_z : Cond.arrayClass .boolean ∈ wsM_ := List.mem_append_right _ (List.mem_append_right _ (List.mem_append_right _ (List.mem_append_right _ (List.mem_append_right _ (List.mem_append_left _ (List.mem_of_getElem? (i := 5) rfl))))))
theorem mM_oi : Cond.instanceMethod objectInit ∈ wsM_ := List.mem_append_right _ (List.mem_append_right _ (List.mem_append_right _ (List.mem_append_right _ (List.mem_append_right _ (List.mem_append_left _ (List.mem_of_getElem? (i := 6) rfl))))))
theorem mM_oc : Cond.code objectInit ⟨#[0xb1]⟩ 1 none ∈ wsM_ := List.mem_append_right _ (List.mem_append_right _ (List.mem_append_right _ (List.mem_append_right _ (List.mem_append_right _ (List.mem_append_left _ (List.mem_of_getElem? (i := 7) rfl))))))
theorem gM_all : GoodIn wsM_ wsM_ := goodIn_sub (fun _ h => h) (by decide +kernel)
def wsX1_init : List Cond := .code yX1_init cX1_init 1 none :: wsM_
def wsX1_thrown : List Cond := .code yX1_thrown cX1_thrown 1 (some .int) :: wsM_
def wsX1_begin : List Cond := .code yX1_begin cX1_begin 3 (some .int) :: wsM_
def wsX1_last : List Cond := .code yX1_last cX1_last 1 (some .int) :: wsM_
theorem qM_last : GoodIn wsM_ (wsV RX1 58 RX1 yX1_last wsX1_last) := gi_V gM_all mM_ml_58 mM_im_last mM_se_last mM_in_ mM_co_last
def wsX1_put : List Cond := .code yX1_put cX1_put 3 none :: wsM_
theorem qM_put : GoodIn wsM_ (wsV RX1 71 RX1 yX1_put wsX1_put) := gi_V gM_all mM_ml_71 mM_im_put mM_se_put mM_in_ mM_co_put
def wsX1_end : List Cond := .code yX1_end cX1_end 1 (some .int) :: wsM_
def wsX1_hasOpen : List Cond := .code yX1_hasOpen cX1_hasOpen 1 (some .boolean) :: wsM_
theorem qM_hasOpen : GoodIn wsM_ (wsV RX1 75 RX1 yX1_hasOpen wsX1_hasOpen) := gi_V gM_all mM_ml_75 mM_im_hasOpen mM_se_hasOpen mM_in_ mM_co_hasOpen
def wsX1_weigh : List Cond := .code yX1_weigh cX1_weigh 3 (some .boolean) :: wsM_
def wsX1_allWeights : List Cond := .code yX1_allWeights cX1_allWeights 4 (some .long) :: wsM_
theorem qM_allWeights : GoodIn wsM_ (wsV RX1 82 RX1 yX1_allWeights wsX1_allWeights) := gi_V gM_all mM_ml_82 mM_im_allWeights mM_se_allWeights mM_in_ mM_co_allWeights
def wsX1_stale : List Cond := .code yX1_stale cX1_stale 2 (some .boolean) :: wsM_
def wsX1_isThere : List Cond := .code yX1_isThere cX1_isThere 2 (some .boolean) :: wsM_
theorem qM_isThere : GoodIn wsM_ (wsV RX1 88 RX1 yX1_isThere wsX1_isThere) := gi_V gM_all mM_ml_88 mM_im_isThere mM_se_isThere mM_in_ mM_co_isThere
def wsX1_isEnded : List Cond := .code yX1_isEnded cX1_isEnded 2 (some .boolean) :: wsM_
theorem qM_isEnded : GoodIn wsM_ (wsV RX1 92 RX1 yX1_isEnded wsX1_isEnded) := gi_V gM_all mM_ml_92 mM_im_isEnded mM_se_isEnded mM_in_ mM_co_isEnded
def wsX1_find : List Cond := .code yX1_find cX1_find 3 (some .int) :: wsM_
theorem qM_find : GoodIn wsM_ (wsV RX1 54 RX1 yX1_find wsX1_find) := gi_V gM_all mM_ml_54 mM_im_find mM_se_find mM_in_ mM_co_find
def wsX1_resume : List Cond := .code yX1_resume cX1_resume 5 (some .int) :: wsM_
def wsX1_limit : List Cond := .code yX1_limit cX1_limit 1 (some .int) :: wsM_
theorem qM_limit : GoodIn wsM_ (wsV RX1 62 RX1 yX1_limit wsX1_limit) := gi_V gM_all mM_ml_62 mM_im_limit mM_se_limit mM_in_ mM_co_limit
def wsX1_frame : List Cond := .code yX1_frame cX1_frame 3 none :: wsM_
theorem qM_frame : GoodIn wsM_ (wsV RX1 95 RX1 yX1_frame wsX1_frame) := gi_V gM_all mM_ml_95 mM_im_frame mM_se_frame mM_in_ mM_co_frame
def wsX1_take : List Cond := .code yX1_take cX1_take 5 (some .int) :: wsM_
def wsX1_isAhead : List Cond := .code yX1_isAhead cX1_isAhead 2 (some .boolean) :: wsM_
theorem qM_isAhead : GoodIn wsM_ (wsV RX1 99 RX1 yX1_isAhead wsX1_isAhead) := gi_V gM_all mM_ml_99 mM_im_isAhead mM_se_isAhead mM_in_ mM_co_isAhead
def wsX1_erase : List Cond := .code yX1_erase cX1_erase 6 none :: wsM_
theorem qM_erase : GoodIn wsM_ (wsV RX1 102 RX1 yX1_erase wsX1_erase) := gi_V gM_all mM_ml_102 mM_im_erase mM_se_erase mM_in_ mM_co_erase
def wsX1_done : List Cond := .code yX1_done cX1_done 2 (some .int) :: wsM_
def wsX1_toEnd : List Cond := .code yX1_toEnd cX1_toEnd 1 (some .boolean) :: wsM_
def wsX1_isFree : List Cond := .code yX1_isFree cX1_isFree 1 (some .boolean) :: wsM_
theorem qM_isFree : GoodIn wsM_ (wsV RX1 106 RX1 yX1_isFree wsX1_isFree) := gi_V gM_all mM_ml_106 mM_im_isFree mM_se_isFree mM_in_ mM_co_isFree
def wsX1_toBegin : List Cond := .code yX1_toBegin cX1_toBegin 1 (some .boolean) :: wsM_
def wsX1_wipe : List Cond := .code yX1_wipe cX1_wipe 2 none :: wsM_
def wsX1_of : List Cond := .code yX1_of cX1_of 3 (some .int) :: wsM_
def wsX1_around : List Cond := .code yX1_around cX1_around 5 (some .int) :: wsM_
theorem qM_around : GoodIn wsM_ (wsV RX1 112 RX1 yX1_around wsX1_around) := gi_V gM_all mM_ml_112 mM_im_around mM_se_around mM_in_ mM_co_around
def wsX1_endOf : List Cond := .code yX1_endOf cX1_endOf 3 (some .int) :: wsM_
theorem qM_endOf : GoodIn wsM_ (wsV RX1 109 RX1 yX1_endOf wsX1_endOf) := gi_V gM_all mM_ml_109 mM_im_endOf mM_se_endOf mM_in_ mM_co_endOf
def wsX1_sumOf : List Cond := .code yX1_sumOf cX1_sumOf 4 (some .int) :: wsM_
theorem qM_sumOf : GoodIn wsM_ (wsV RX1 115 RX1 yX1_sumOf wsX1_sumOf) := gi_V gM_all mM_ml_115 mM_im_sumOf mM_se_sumOf mM_in_ mM_co_sumOf
def wsX1_event : List Cond := .code yX1_event cX1_event 2 (some .int) :: wsM_
def wsX1_look : List Cond := .code yX1_look cX1_look 4 (some .int) :: wsM_
theorem dX1_init_0 : decode cX1_init 0 = .ok (.aload_n 0, 1) := by decide +kernel
theorem dX1_init_1 : decode cX1_init 1 = .ok (.invokespecial 1, 3) := by decide +kernel
theorem dX1_init_4 : decode cX1_init 4 = .ok (.aload_n 0, 1) := by decide +kernel
theorem dX1_init_5 : decode cX1_init 5 = .ok (.sipush 600, 3) := by decide +kernel
theorem dX1_init_8 : decode cX1_init 8 = .ok (.newarray .boolean, 2) := by decide +kernel
theorem dX1_init_10 : decode cX1_init 10 = .ok (.putfield 7, 3) := by decide +kernel
theorem dX1_init_13 : decode cX1_init 13 = .ok (.aload_n 0, 1) := by decide +kernel
theorem dX1_init_14 : decode cX1_init 14 = .ok (.sipush 600, 3) := by decide +kernel
theorem dX1_init_17 : decode cX1_init 17 = .ok (.newarray .int, 2) := by decide +kernel
theorem dX1_init_19 : decode cX1_init 19 = .ok (.putfield 13, 3) := by decide +kernel
theorem dX1_init_22 : decode cX1_init 22 = .ok (.aload_n 0, 1) := by decide +kernel
theorem dX1_init_23 : decode cX1_init 23 = .ok (.sipush 600, 3) := by decide +kernel
theorem dX1_init_26 : decode cX1_init 26 = .ok (.newarray .int, 2) := by decide +kernel
theorem dX1_init_28 : decode cX1_init 28 = .ok (.putfield 17, 3) := by decide +kernel
theorem dX1_init_31 : decode cX1_init 31 = .ok (.aload_n 0, 1) := by decide +kernel
theorem dX1_init_32 : decode cX1_init 32 = .ok (.sipush 600, 3) := by decide +kernel
theorem dX1_init_35 : decode cX1_init 35 = .ok (.newarray .boolean, 2) := by decide +kernel
theorem dX1_init_37 : decode cX1_init 37 = .ok (.putfield 20, 3) := by decide +kernel
theorem dX1_init_40 : decode cX1_init 40 = .ok (.aload_n 0, 1) := by decide +kernel
theorem dX1_init_41 : decode cX1_init 41 = .ok (.sipush 1200, 3) := by decide +kernel
theorem dX1_init_44 : decode cX1_init 44 = .ok (.newarray .int, 2) := by decide +kernel
theorem dX1_init_46 : decode cX1_init 46 = .ok (.putfield 23, 3) := by decide +kernel
theorem dX1_init_49 : decode cX1_init 49 = .ok (.aload_n 0, 1) := by decide +kernel
theorem dX1_init_50 : decode cX1_init 50 = .ok (.iconst 1, 1) := by decide +kernel
theorem dX1_init_51 : decode cX1_init 51 = .ok (.putfield 26, 3) := by decide +kernel
theorem dX1_init_54 : decode cX1_init 54 = .ok (.aload_n 0, 1) := by decide +kernel
theorem dX1_init_55 : decode cX1_init 55 = .ok (.bipush 64, 2) := by decide +kernel
theorem dX1_init_57 : decode cX1_init 57 = .ok (.newarray .int, 2) := by decide +kernel
theorem dX1_init_59 : decode cX1_init 59 = .ok (.putfield 30, 3) := by decide +kernel
theorem dX1_init_62 : decode cX1_init 62 = .ok (.aload_n 0, 1) := by decide +kernel
theorem dX1_init_63 : decode cX1_init 63 = .ok (.bipush 64, 2) := by decide +kernel
theorem dX1_init_65 : decode cX1_init 65 = .ok (.newarray .boolean, 2) := by decide +kernel
theorem dX1_init_67 : decode cX1_init 67 = .ok (.putfield 33, 3) := by decide +kernel
theorem dX1_init_70 : decode cX1_init 70 = .ok (.aload_n 0, 1) := by decide +kernel
theorem dX1_init_71 : decode cX1_init 71 = .ok (.sipush 600, 3) := by decide +kernel
theorem dX1_init_74 : decode cX1_init 74 = .ok (.newarray .int, 2) := by decide +kernel
theorem dX1_init_76 : decode cX1_init 76 = .ok (.putfield 36, 3) := by decide +kernel
theorem dX1_init_79 : decode cX1_init 79 = .ok (.aload_n 0, 1) := by decide +kernel
theorem dX1_init_80 : decode cX1_init 80 = .ok (.sipush 600, 3) := by decide +kernel
theorem dX1_init_83 : decode cX1_init 83 = .ok (.newarray .int, 2) := by decide +kernel
theorem dX1_init_85 : decode cX1_init 85 = .ok (.putfield 39, 3) := by decide +kernel
theorem dX1_init_88 : decode cX1_init 88 = .ok (.aload_n 0, 1) := by decide +kernel
theorem dX1_init_89 : decode cX1_init 89 = .ok (.sipush 600, 3) := by decide +kernel
theorem dX1_init_92 : decode cX1_init 92 = .ok (.newarray .boolean, 2) := by decide +kernel
theorem dX1_init_94 : decode cX1_init 94 = .ok (.putfield 42, 3) := by decide +kernel
theorem dX1_init_97 : decode cX1_init 97 = .ok (.aload_n 0, 1) := by decide +kernel
theorem dX1_init_98 : decode cX1_init 98 = .ok (.getfield 30, 3) := by decide +kernel
theorem dX1_init_101 : decode cX1_init 101 = .ok (.iconst 0, 1) := by decide +kernel
theorem dX1_init_102 : decode cX1_init 102 = .ok (.iconst (-1), 1) := by decide +kernel
theorem dX1_init_103 : decode cX1_init 103 = .ok (.iastore, 1) := by decide +kernel
theorem dX1_init_104 : decode cX1_init 104 = .ok (.return_, 1) := by decide +kernel
theorem dX1_thrown_0 : decode cX1_thrown 0 = .ok (.aload_n 0, 1) := by decide +kernel
theorem dX1_thrown_1 : decode cX1_thrown 1 = .ok (.getfield 45, 3) := by decide +kernel
theorem dX1_thrown_4 : decode cX1_thrown 4 = .ok (.ireturn, 1) := by decide +kernel
theorem dX1_begin_0 : decode cX1_begin 0 = .ok (.aload_n 0, 1) := by decide +kernel
theorem dX1_begin_1 : decode cX1_begin 1 = .ok (.iconst 0, 1) := by decide +kernel
theorem dX1_begin_2 : decode cX1_begin 2 = .ok (.putfield 45, 3) := by decide +kernel
theorem dX1_begin_5 : decode cX1_begin 5 = .ok (.aload_n 0, 1) := by decide +kernel
theorem dX1_begin_6 : decode cX1_begin 6 = .ok (.getfield 68, 3) := by decide +kernel
theorem dX1_begin_9 : decode cX1_begin 9 = .ok (.sipush 600, 3) := by decide +kernel
theorem dX1_begin_12 : decode cX1_begin 12 = .ok (.if_icmp .eq 15, 3) := by decide +kernel
theorem dX1_begin_15 : decode cX1_begin 15 = .ok (.aload_n 0, 1) := by decide +kernel
theorem dX1_begin_16 : decode cX1_begin 16 = .ok (.getfield 33, 3) := by decide +kernel
theorem dX1_begin_19 : decode cX1_begin 19 = .ok (.aload_n 0, 1) := by decide +kernel
theorem dX1_begin_20 : decode cX1_begin 20 = .ok (.invokevirtual 58, 3) := by decide +kernel
theorem dX1_begin_23 : decode cX1_begin 23 = .ok (.baload, 1) := by decide +kernel
theorem dX1_begin_24 : decode cX1_begin 24 = .ok (.ifCond .eq 5, 3) := by decide +kernel
theorem dX1_begin_27 : decode cX1_begin 27 = .ok (.iconst (-1), 1) := by decide +kernel
theorem dX1_begin_28 : decode cX1_begin 28 = .ok (.ireturn, 1) := by decide +kernel
theorem dX1_begin_29 : decode cX1_begin 29 = .ok (.iconst 0, 1) := by decide +kernel
theorem dX1_begin_30 : decode cX1_begin 30 = .ok (.istore_n 2, 1) := by decide +kernel
theorem dX1_begin_31 : decode cX1_begin 31 = .ok (.aload_n 0, 1) := by decide +kernel
theorem dX1_begin_32 : decode cX1_begin 32 = .ok (.getfield 7, 3) := by decide +kernel
theorem dX1_begin_35 : decode cX1_begin 35 = .ok (.iload_n 2, 1) := by decide +kernel
theorem dX1_begin_36 : decode cX1_begin 36 = .ok (.baload, 1) := by decide +kernel
theorem dX1_begin_37 : decode cX1_begin 37 = .ok (.ifCond .eq 9, 3) := by decide +kernel
theorem dX1_begin_40 : decode cX1_begin 40 = .ok (.iinc 2 1, 3) := by decide +kernel
theorem dX1_begin_43 : decode cX1_begin 43 = .ok (.goto (-12), 3) := by decide +kernel
theorem dX1_begin_46 : decode cX1_begin 46 = .ok (.aload_n 0, 1) := by decide +kernel
theorem dX1_begin_47 : decode cX1_begin 47 = .ok (.getfield 7, 3) := by decide +kernel
theorem dX1_begin_50 : decode cX1_begin 50 = .ok (.iload_n 2, 1) := by decide +kernel
theorem dX1_begin_51 : decode cX1_begin 51 = .ok (.iconst 1, 1) := by decide +kernel
theorem dX1_begin_52 : decode cX1_begin 52 = .ok (.bastore, 1) := by decide +kernel
theorem dX1_begin_53 : decode cX1_begin 53 = .ok (.aload_n 0, 1) := by decide +kernel
theorem dX1_begin_54 : decode cX1_begin 54 = .ok (.getfield 13, 3) := by decide +kernel
theorem dX1_begin_57 : decode cX1_begin 57 = .ok (.iload_n 2, 1) := by decide +kernel
theorem dX1_begin_58 : decode cX1_begin 58 = .ok (.iload_n 1, 1) := by decide +kernel
theorem dX1_begin_59 : decode cX1_begin 59 = .ok (.iastore, 1) := by decide +kernel
theorem dX1_begin_60 : decode cX1_begin 60 = .ok (.aload_n 0, 1) := by decide +kernel
theorem dX1_begin_61 : decode cX1_begin 61 = .ok (.getfield 17, 3) := by decide +kernel
theorem dX1_begin_64 : decode cX1_begin 64 = .ok (.iload_n 2, 1) := by decide +kernel
theorem dX1_begin_65 : decode cX1_begin 65 = .ok (.iconst 0, 1) := by decide +kernel
theorem dX1_begin_66 : decode cX1_begin 66 = .ok (.iastore, 1) := by decide +kernel
theorem dX1_begin_67 : decode cX1_begin 67 = .ok (.aload_n 0, 1) := by decide +kernel
theorem dX1_begin_68 : decode cX1_begin 68 = .ok (.getfield 20, 3) := by decide +kernel
theorem dX1_begin_71 : decode cX1_begin 71 = .ok (.iload_n 2, 1) := by decide +kernel
theorem dX1_begin_72 : decode cX1_begin 72 = .ok (.iconst 0, 1) := by decide +kernel
theorem dX1_begin_73 : decode cX1_begin 73 = .ok (.bastore, 1) := by decide +kernel
theorem dX1_begin_74 : decode cX1_begin 74 = .ok (.aload_n 0, 1) := by decide +kernel
theorem dX1_begin_75 : decode cX1_begin 75 = .ok (.dup, 1) := by decide +kernel
theorem dX1_begin_76 : decode cX1_begin 76 = .ok (.getfield 68, 3) := by decide +kernel
theorem dX1_begin_79 : decode cX1_begin 79 = .ok (.iconst 1, 1) := by decide +kernel
theorem dX1_begin_80 : decode cX1_begin 80 = .ok (.iadd, 1) := by decide +kernel
theorem dX1_begin_81 : decode cX1_begin 81 = .ok (.putfield 68, 3) := by decide +kernel
theorem dX1_begin_84 : decode cX1_begin 84 = .ok (.aload_n 0, 1) := by decide +kernel
theorem dX1_begin_85 : decode cX1_begin 85 = .ok (.iconst 2, 1) := by decide +kernel
theorem dX1_begin_86 : decode cX1_begin 86 = .ok (.iload_n 2, 1) := by decide +kernel
theorem dX1_begin_87 : decode cX1_begin 87 = .ok (.imul, 1) := by decide +kernel
theorem dX1_begin_88 : decode cX1_begin 88 = .ok (.invokevirtual 71, 3) := by decide +kernel
theorem dX1_begin_91 : decode cX1_begin 91 = .ok (.aload_n 0, 1) := by decide +kernel
theorem dX1_begin_92 : decode cX1_begin 92 = .ok (.getfield 36, 3) := by decide +kernel
theorem dX1_begin_95 : decode cX1_begin 95 = .ok (.aload_n 0, 1) := by decide +kernel
theorem dX1_begin_96 : decode cX1_begin 96 = .ok (.getfield 65, 3) := by decide +kernel
theorem dX1_begin_99 : decode cX1_begin 99 = .ok (.iload_n 2, 1) := by decide +kernel
theorem dX1_begin_100 : decode cX1_begin 100 = .ok (.iastore, 1) := by decide +kernel
theorem dX1_begin_101 : decode cX1_begin 101 = .ok (.aload_n 0, 1) := by decide +kernel
theorem dX1_begin_102 : decode cX1_begin 102 = .ok (.getfield 39, 3) := by decide +kernel
theorem dX1_begin_105 : decode cX1_begin 105 = .ok (.aload_n 0, 1) := by decide +kernel
theorem dX1_begin_106 : decode cX1_begin 106 = .ok (.getfield 65, 3) := by decide +kernel
theorem dX1_begin_109 : decode cX1_begin 109 = .ok (.aload_n 0, 1) := by decide +kernel
theorem dX1_begin_110 : decode cX1_begin 110 = .ok (.invokevirtual 58, 3) := by decide +kernel
theorem dX1_begin_113 : decode cX1_begin 113 = .ok (.iastore, 1) := by decide +kernel
theorem dX1_begin_114 : decode cX1_begin 114 = .ok (.aload_n 0, 1) := by decide +kernel
theorem dX1_begin_115 : decode cX1_begin 115 = .ok (.dup, 1) := by decide +kernel
theorem dX1_begin_116 : decode cX1_begin 116 = .ok (.getfield 65, 3) := by decide +kernel
theorem dX1_begin_119 : decode cX1_begin 119 = .ok (.iconst 1, 1) := by decide +kernel
theorem dX1_begin_120 : decode cX1_begin 120 = .ok (.iadd, 1) := by decide +kernel
theorem dX1_begin_121 : decode cX1_begin 121 = .ok (.putfield 65, 3) := by decide +kernel
theorem dX1_begin_124 : decode cX1_begin 124 = .ok (.iload_n 2, 1) := by decide +kernel
theorem dX1_begin_125 : decode cX1_begin 125 = .ok (.ireturn, 1) := by decide +kernel
theorem dX1_last_0 : decode cX1_last 0 = .ok (.aload_n 0, 1) := by decide +kernel
theorem dX1_last_1 : decode cX1_last 1 = .ok (.getfield 26, 3) := by decide +kernel
theorem dX1_last_4 : decode cX1_last 4 = .ok (.iconst 1, 1) := by decide +kernel
theorem dX1_last_5 : decode cX1_last 5 = .ok (.isub, 1) := by decide +kernel
theorem dX1_last_6 : decode cX1_last 6 = .ok (.ireturn, 1) := by decide +kernel
theorem dX1_put_0 : decode cX1_put 0 = .ok (.aload_n 0, 1) := by decide +kernel
theorem dX1_put_1 : decode cX1_put 1 = .ok (.getfield 48, 3) := by decide +kernel
theorem dX1_put_4 : decode cX1_put 4 = .ok (.istore_n 2, 1) := by decide +kernel
theorem dX1_put_5 : decode cX1_put 5 = .ok (.iload_n 2, 1) := by decide +kernel
theorem dX1_put_6 : decode cX1_put 6 = .ok (.aload_n 0, 1) := by decide +kernel
theorem dX1_put_7 : decode cX1_put 7 = .ok (.getfield 51, 3) := by decide +kernel
theorem dX1_put_10 : decode cX1_put 10 = .ok (.if_icmp .le 23, 3) := by decide +kernel
theorem dX1_put_13 : decode cX1_put 13 = .ok (.aload_n 0, 1) := by decide +kernel
theorem dX1_put_14 : decode cX1_put 14 = .ok (.getfield 23, 3) := by decide +kernel
theorem dX1_put_17 : decode cX1_put 17 = .ok (.iload_n 2, 1) := by decide +kernel
theorem dX1_put_18 : decode cX1_put 18 = .ok (.aload_n 0, 1) := by decide +kernel
theorem dX1_put_19 : decode cX1_put 19 = .ok (.getfield 23, 3) := by decide +kernel
theorem dX1_put_22 : decode cX1_put 22 = .ok (.iload_n 2, 1) := by decide +kernel
theorem dX1_put_23 : decode cX1_put 23 = .ok (.iconst 1, 1) := by decide +kernel
theorem dX1_put_24 : decode cX1_put 24 = .ok (.isub, 1) := by decide +kernel
theorem dX1_put_25 : decode cX1_put 25 = .ok (.iaload, 1) := by decide +kernel
theorem dX1_put_26 : decode cX1_put 26 = .ok (.iastore, 1) := by decide +kernel
theorem dX1_put_27 : decode cX1_put 27 = .ok (.iinc 2 (-1), 3) := by decide +kernel
theorem dX1_put_30 : decode cX1_put 30 = .ok (.goto (-25), 3) := by decide +kernel
theorem dX1_put_33 : decode cX1_put 33 = .ok (.aload_n 0, 1) := by decide +kernel
theorem dX1_put_34 : decode cX1_put 34 = .ok (.getfield 23, 3) := by decide +kernel
theorem dX1_put_37 : decode cX1_put 37 = .ok (.aload_n 0, 1) := by decide +kernel
theorem dX1_put_38 : decode cX1_put 38 = .ok (.getfield 51, 3) := by decide +kernel
theorem dX1_put_41 : decode cX1_put 41 = .ok (.iload_n 1, 1) := by decide +kernel
theorem dX1_put_42 : decode cX1_put 42 = .ok (.iastore, 1) := by decide +kernel
theorem dX1_put_43 : decode cX1_put 43 = .ok (.aload_n 0, 1) := by decide +kernel
theorem dX1_put_44 : decode cX1_put 44 = .ok (.dup, 1) := by decide +kernel
theorem dX1_put_45 : decode cX1_put 45 = .ok (.getfield 48, 3) := by decide +kernel
theorem dX1_put_48 : decode cX1_put 48 = .ok (.iconst 1, 1) := by decide +kernel
theorem dX1_put_49 : decode cX1_put 49 = .ok (.iadd, 1) := by decide +kernel
theorem dX1_put_50 : decode cX1_put 50 = .ok (.putfield 48, 3) := by decide +kernel
theorem dX1_put_53 : decode cX1_put 53 = .ok (.aload_n 0, 1) := by decide +kernel
theorem dX1_put_54 : decode cX1_put 54 = .ok (.dup, 1) := by decide +kernel
theorem dX1_put_55 : decode cX1_put 55 = .ok (.getfield 51, 3) := by decide +kernel
theorem dX1_put_58 : decode cX1_put 58 = .ok (.iconst 1, 1) := by decide +kernel
theorem dX1_put_59 : decode cX1_put 59 = .ok (.iadd, 1) := by decide +kernel
theorem dX1_put_60 : decode cX1_put 60 = .ok (.putfield 51, 3) := by decide +kernel
theorem dX1_put_63 : decode cX1_put 63 = .ok (.return_, 1) := by decide +kernel
theorem dX1_end_0 : decode cX1_end 0 = .ok (.aload_n 0, 1) := by decide +kernel
theorem dX1_end_1 : decode cX1_end 1 = .ok (.iconst 0, 1) := by decide +kernel
theorem dX1_end_2 : decode cX1_end 2 = .ok (.putfield 45, 3) := by decide +kernel
theorem dX1_end_5 : decode cX1_end 5 = .ok (.aload_n 0, 1) := by decide +kernel
theorem dX1_end_6 : decode cX1_end 6 = .ok (.invokevirtual 75, 3) := by decide +kernel
theorem dX1_end_9 : decode cX1_end 9 = .ok (.ifCond .ne 5, 3) := by decide +kernel
theorem dX1_end_12 : decode cX1_end 12 = .ok (.iconst (-1), 1) := by decide +kernel
theorem dX1_end_13 : decode cX1_end 13 = .ok (.ireturn, 1) := by decide +kernel
theorem dX1_end_14 : decode cX1_end 14 = .ok (.aload_n 0, 1) := by decide +kernel
theorem dX1_end_15 : decode cX1_end 15 = .ok (.dup, 1) := by decide +kernel
theorem dX1_end_16 : decode cX1_end 16 = .ok (.getfield 65, 3) := by decide +kernel
theorem dX1_end_19 : decode cX1_end 19 = .ok (.iconst 1, 1) := by decide +kernel
theorem dX1_end_20 : decode cX1_end 20 = .ok (.isub, 1) := by decide +kernel
theorem dX1_end_21 : decode cX1_end 21 = .ok (.putfield 65, 3) := by decide +kernel
theorem dX1_end_24 : decode cX1_end 24 = .ok (.aload_n 0, 1) := by decide +kernel
theorem dX1_end_25 : decode cX1_end 25 = .ok (.iconst 2, 1) := by decide +kernel
theorem dX1_end_26 : decode cX1_end 26 = .ok (.aload_n 0, 1) := by decide +kernel
theorem dX1_end_27 : decode cX1_end 27 = .ok (.getfield 36, 3) := by decide +kernel
theorem dX1_end_30 : decode cX1_end 30 = .ok (.aload_n 0, 1) := by decide +kernel
theorem dX1_end_31 : decode cX1_end 31 = .ok (.getfield 65, 3) := by decide +kernel
theorem dX1_end_34 : decode cX1_end 34 = .ok (.iaload, 1) := by decide +kernel
theorem dX1_end_35 : decode cX1_end 35 = .ok (.imul, 1) := by decide +kernel
theorem dX1_end_36 : decode cX1_end 36 = .ok (.iconst 1, 1) := by decide +kernel
theorem dX1_end_37 : decode cX1_end 37 = .ok (.iadd, 1) := by decide +kernel
theorem dX1_end_38 : decode cX1_end 38 = .ok (.invokevirtual 71, 3) := by decide +kernel
theorem dX1_end_41 : decode cX1_end 41 = .ok (.aload_n 0, 1) := by decide +kernel
theorem dX1_end_42 : decode cX1_end 42 = .ok (.getfield 36, 3) := by decide +kernel
theorem dX1_end_45 : decode cX1_end 45 = .ok (.aload_n 0, 1) := by decide +kernel
theorem dX1_end_46 : decode cX1_end 46 = .ok (.getfield 65, 3) := by decide +kernel
theorem dX1_end_49 : decode cX1_end 49 = .ok (.iaload, 1) := by decide +kernel
theorem dX1_end_50 : decode cX1_end 50 = .ok (.ireturn, 1) := by decide +kernel
theorem dX1_hasOpen_0 : decode cX1_hasOpen 0 = .ok (.aload_n 0, 1) := by decide +kernel
theorem dX1_hasOpen_1 : decode cX1_hasOpen 1 = .ok (.getfield 65, 3) := by decide +kernel
theorem dX1_hasOpen_4 : decode cX1_hasOpen 4 = .ok (.ifCond .le 25, 3) := by decide +kernel
theorem dX1_hasOpen_7 : decode cX1_hasOpen 7 = .ok (.aload_n 0, 1) := by decide +kernel
theorem dX1_hasOpen_8 : decode cX1_hasOpen 8 = .ok (.getfield 39, 3) := by decide +kernel
theorem dX1_hasOpen_11 : decode cX1_hasOpen 11 = .ok (.aload_n 0, 1) := by decide +kernel
theorem dX1_hasOpen_12 : decode cX1_hasOpen 12 = .ok (.getfield 65, 3) := by decide +kernel
theorem dX1_hasOpen_15 : decode cX1_hasOpen 15 = .ok (.iconst 1, 1) := by decide +kernel
theorem dX1_hasOpen_16 : decode cX1_hasOpen 16 = .ok (.isub, 1) := by decide +kernel
theorem dX1_hasOpen_17 : decode cX1_hasOpen 17 = .ok (.iaload, 1) := by decide +kernel
theorem dX1_hasOpen_18 : decode cX1_hasOpen 18 = .ok (.aload_n 0, 1) := by decide +kernel
theorem dX1_hasOpen_19 : decode cX1_hasOpen 19 = .ok (.invokevirtual 58, 3) := by decide +kernel
theorem dX1_hasOpen_22 : decode cX1_hasOpen 22 = .ok (.if_icmp .ne 7, 3) := by decide +kernel
theorem dX1_hasOpen_25 : decode cX1_hasOpen 25 = .ok (.iconst 1, 1) := by decide +kernel
theorem dX1_hasOpen_26 : decode cX1_hasOpen 26 = .ok (.goto 4, 3) := by decide +kernel
theorem dX1_hasOpen_29 : decode cX1_hasOpen 29 = .ok (.iconst 0, 1) := by decide +kernel
theorem dX1_hasOpen_30 : decode cX1_hasOpen 30 = .ok (.ireturn, 1) := by decide +kernel
theorem dX1_weigh_0 : decode cX1_weigh 0 = .ok (.aload_n 0, 1) := by decide +kernel
theorem dX1_weigh_1 : decode cX1_weigh 1 = .ok (.iconst 0, 1) := by decide +kernel
theorem dX1_weigh_2 : decode cX1_weigh 2 = .ok (.putfield 45, 3) := by decide +kernel
theorem dX1_weigh_5 : decode cX1_weigh 5 = .ok (.iload_n 1, 1) := by decide +kernel
theorem dX1_weigh_6 : decode cX1_weigh 6 = .ok (.ifCond .lt 29, 3) := by decide +kernel
theorem dX1_weigh_9 : decode cX1_weigh 9 = .ok (.aload_n 0, 1) := by decide +kernel
theorem dX1_weigh_10 : decode cX1_weigh 10 = .ok (.getfield 33, 3) := by decide +kernel
theorem dX1_weigh_13 : decode cX1_weigh 13 = .ok (.aload_n 0, 1) := by decide +kernel
theorem dX1_weigh_14 : decode cX1_weigh 14 = .ok (.invokevirtual 58, 3) := by decide +kernel
theorem dX1_weigh_17 : decode cX1_weigh 17 = .ok (.baload, 1) := by decide +kernel
theorem dX1_weigh_18 : decode cX1_weigh 18 = .ok (.ifCond .ne 17, 3) := by decide +kernel
theorem dX1_weigh_21 : decode cX1_weigh 21 = .ok (.aload_n 0, 1) := by decide +kernel
theorem dX1_weigh_22 : decode cX1_weigh 22 = .ok (.invokevirtual 82, 3) := by decide +kernel
theorem dX1_weigh_25 : decode cX1_weigh 25 = .ok (.iload_n 1, 1) := by decide +kernel
theorem dX1_weigh_26 : decode cX1_weigh 26 = .ok (.i2l, 1) := by decide +kernel
theorem dX1_weigh_27 : decode cX1_weigh 27 = .ok (.ladd, 1) := by decide +kernel
theorem dX1_weigh_28 : decode cX1_weigh 28 = .ok (.ldc2_w 86, 3) := by decide +kernel
theorem dX1_weigh_31 : decode cX1_weigh 31 = .ok (.lcmp, 1) := by decide +kernel
theorem dX1_weigh_32 : decode cX1_weigh 32 = .ok (.ifCond .le 5, 3) := by decide +kernel
theorem dX1_weigh_35 : decode cX1_weigh 35 = .ok (.iconst 0, 1) := by decide +kernel
theorem dX1_weigh_36 : decode cX1_weigh 36 = .ok (.ireturn, 1) := by decide +kernel
theorem dX1_weigh_37 : decode cX1_weigh 37 = .ok (.aload_n 0, 1) := by decide +kernel
theorem dX1_weigh_38 : decode cX1_weigh 38 = .ok (.invokevirtual 75, 3) := by decide +kernel
theorem dX1_weigh_41 : decode cX1_weigh 41 = .ok (.ifCond .eq 17, 3) := by decide +kernel
theorem dX1_weigh_44 : decode cX1_weigh 44 = .ok (.aload_n 0, 1) := by decide +kernel
theorem dX1_weigh_45 : decode cX1_weigh 45 = .ok (.getfield 36, 3) := by decide +kernel
theorem dX1_weigh_48 : decode cX1_weigh 48 = .ok (.aload_n 0, 1) := by decide +kernel
theorem dX1_weigh_49 : decode cX1_weigh 49 = .ok (.getfield 65, 3) := by decide +kernel
theorem dX1_weigh_52 : decode cX1_weigh 52 = .ok (.iconst 1, 1) := by decide +kernel
theorem dX1_weigh_53 : decode cX1_weigh 53 = .ok (.isub, 1) := by decide +kernel
theorem dX1_weigh_54 : decode cX1_weigh 54 = .ok (.iaload, 1) := by decide +kernel
theorem dX1_weigh_55 : decode cX1_weigh 55 = .ok (.goto 12, 3) := by decide +kernel
theorem dX1_weigh_58 : decode cX1_weigh 58 = .ok (.aload_n 0, 1) := by decide +kernel
theorem dX1_weigh_59 : decode cX1_weigh 59 = .ok (.getfield 30, 3) := by decide +kernel
theorem dX1_weigh_62 : decode cX1_weigh 62 = .ok (.aload_n 0, 1) := by decide +kernel
theorem dX1_weigh_63 : decode cX1_weigh 63 = .ok (.invokevirtual 58, 3) := by decide +kernel
theorem dX1_weigh_66 : decode cX1_weigh 66 = .ok (.iaload, 1) := by decide +kernel
theorem dX1_weigh_67 : decode cX1_weigh 67 = .ok (.istore_n 2, 1) := by decide +kernel
theorem dX1_weigh_68 : decode cX1_weigh 68 = .ok (.iload_n 2, 1) := by decide +kernel
theorem dX1_weigh_69 : decode cX1_weigh 69 = .ok (.ifCond .ge 16, 3) := by decide +kernel
theorem dX1_weigh_72 : decode cX1_weigh 72 = .ok (.aload_n 0, 1) := by decide +kernel
theorem dX1_weigh_73 : decode cX1_weigh 73 = .ok (.dup, 1) := by decide +kernel
theorem dX1_weigh_74 : decode cX1_weigh 74 = .ok (.getfield 79, 3) := by decide +kernel
theorem dX1_weigh_77 : decode cX1_weigh 77 = .ok (.iload_n 1, 1) := by decide +kernel
theorem dX1_weigh_78 : decode cX1_weigh 78 = .ok (.iadd, 1) := by decide +kernel
theorem dX1_weigh_79 : decode cX1_weigh 79 = .ok (.putfield 79, 3) := by decide +kernel
theorem dX1_weigh_82 : decode cX1_weigh 82 = .ok (.goto 13, 3) := by decide +kernel
theorem dX1_weigh_85 : decode cX1_weigh 85 = .ok (.aload_n 0, 1) := by decide +kernel
theorem dX1_weigh_86 : decode cX1_weigh 86 = .ok (.getfield 17, 3) := by decide +kernel
theorem dX1_weigh_89 : decode cX1_weigh 89 = .ok (.iload_n 2, 1) := by decide +kernel
theorem dX1_weigh_90 : decode cX1_weigh 90 = .ok (.dup2, 1) := by decide +kernel
theorem dX1_weigh_91 : decode cX1_weigh 91 = .ok (.iaload, 1) := by decide +kernel
theorem dX1_weigh_92 : decode cX1_weigh 92 = .ok (.iload_n 1, 1) := by decide +kernel
theorem dX1_weigh_93 : decode cX1_weigh 93 = .ok (.iadd, 1) := by decide +kernel
theorem dX1_weigh_94 : decode cX1_weigh 94 = .ok (.iastore, 1) := by decide +kernel
theorem dX1_weigh_95 : decode cX1_weigh 95 = .ok (.iconst 1, 1) := by decide +kernel
theorem dX1_weigh_96 : decode cX1_weigh 96 = .ok (.ireturn, 1) := by decide +kernel
theorem dX1_allWeights_0 : decode cX1_allWeights 0 = .ok (.aload_n 0, 1) := by decide +kernel
theorem dX1_allWeights_1 : decode cX1_allWeights 1 = .ok (.getfield 79, 3) := by decide +kernel
theorem dX1_allWeights_4 : decode cX1_allWeights 4 = .ok (.i2l, 1) := by decide +kernel
theorem dX1_allWeights_5 : decode cX1_allWeights 5 = .ok (.lstore_n 1, 1) := by decide +kernel
theorem dX1_allWeights_6 : decode cX1_allWeights 6 = .ok (.iconst 0, 1) := by decide +kernel
theorem dX1_allWeights_7 : decode cX1_allWeights 7 = .ok (.istore_n 3, 1) := by decide +kernel
theorem dX1_allWeights_8 : decode cX1_allWeights 8 = .ok (.iload_n 3, 1) := by decide +kernel
theorem dX1_allWeights_9 : decode cX1_allWeights 9 = .ok (.sipush 600, 3) := by decide +kernel
theorem dX1_allWeights_12 : decode cX1_allWeights 12 = .ok (.if_icmp .ge 32, 3) := by decide +kernel
theorem dX1_allWeights_15 : decode cX1_allWeights 15 = .ok (.lload_n 1, 1) := by decide +kernel
theorem dX1_allWeights_16 : decode cX1_allWeights 16 = .ok (.aload_n 0, 1) := by decide +kernel
theorem dX1_allWeights_17 : decode cX1_allWeights 17 = .ok (.getfield 7, 3) := by decide +kernel
theorem dX1_allWeights_20 : decode cX1_allWeights 20 = .ok (.iload_n 3, 1) := by decide +kernel
theorem dX1_allWeights_21 : decode cX1_allWeights 21 = .ok (.baload, 1) := by decide +kernel
theorem dX1_allWeights_22 : decode cX1_allWeights 22 = .ok (.ifCond .eq 13, 3) := by decide +kernel
theorem dX1_allWeights_25 : decode cX1_allWeights 25 = .ok (.aload_n 0, 1) := by decide +kernel
theorem dX1_allWeights_26 : decode cX1_allWeights 26 = .ok (.getfield 17, 3) := by decide +kernel
theorem dX1_allWeights_29 : decode cX1_allWeights 29 = .ok (.iload_n 3, 1) := by decide +kernel
theorem dX1_allWeights_30 : decode cX1_allWeights 30 = .ok (.iaload, 1) := by decide +kernel
theorem dX1_allWeights_31 : decode cX1_allWeights 31 = .ok (.i2l, 1) := by decide +kernel
theorem dX1_allWeights_32 : decode cX1_allWeights 32 = .ok (.goto 4, 3) := by decide +kernel
theorem dX1_allWeights_35 : decode cX1_allWeights 35 = .ok (.lconst 0, 1) := by decide +kernel
theorem dX1_allWeights_36 : decode cX1_allWeights 36 = .ok (.ladd, 1) := by decide +kernel
theorem dX1_allWeights_37 : decode cX1_allWeights 37 = .ok (.lstore_n 1, 1) := by decide +kernel
theorem dX1_allWeights_38 : decode cX1_allWeights 38 = .ok (.iinc 3 1, 3) := by decide +kernel
theorem dX1_allWeights_41 : decode cX1_allWeights 41 = .ok (.goto (-33), 3) := by decide +kernel
theorem dX1_allWeights_44 : decode cX1_allWeights 44 = .ok (.lload_n 1, 1) := by decide +kernel
theorem dX1_allWeights_45 : decode cX1_allWeights 45 = .ok (.lreturn, 1) := by decide +kernel
theorem dX1_stale_0 : decode cX1_stale 0 = .ok (.aload_n 0, 1) := by decide +kernel
theorem dX1_stale_1 : decode cX1_stale 1 = .ok (.iconst 0, 1) := by decide +kernel
theorem dX1_stale_2 : decode cX1_stale 2 = .ok (.putfield 45, 3) := by decide +kernel
theorem dX1_stale_5 : decode cX1_stale 5 = .ok (.aload_n 0, 1) := by decide +kernel
theorem dX1_stale_6 : decode cX1_stale 6 = .ok (.iload_n 1, 1) := by decide +kernel
theorem dX1_stale_7 : decode cX1_stale 7 = .ok (.invokevirtual 88, 3) := by decide +kernel
theorem dX1_stale_10 : decode cX1_stale 10 = .ok (.ifCond .eq 20, 3) := by decide +kernel
theorem dX1_stale_13 : decode cX1_stale 13 = .ok (.aload_n 0, 1) := by decide +kernel
theorem dX1_stale_14 : decode cX1_stale 14 = .ok (.iload_n 1, 1) := by decide +kernel
theorem dX1_stale_15 : decode cX1_stale 15 = .ok (.invokevirtual 92, 3) := by decide +kernel
theorem dX1_stale_18 : decode cX1_stale 18 = .ok (.ifCond .eq 12, 3) := by decide +kernel
theorem dX1_stale_21 : decode cX1_stale 21 = .ok (.aload_n 0, 1) := by decide +kernel
theorem dX1_stale_22 : decode cX1_stale 22 = .ok (.getfield 20, 3) := by decide +kernel
theorem dX1_stale_25 : decode cX1_stale 25 = .ok (.iload_n 1, 1) := by decide +kernel
theorem dX1_stale_26 : decode cX1_stale 26 = .ok (.baload, 1) := by decide +kernel
theorem dX1_stale_27 : decode cX1_stale 27 = .ok (.ifCond .eq 5, 3) := by decide +kernel
theorem dX1_stale_30 : decode cX1_stale 30 = .ok (.iconst 0, 1) := by decide +kernel
theorem dX1_stale_31 : decode cX1_stale 31 = .ok (.ireturn, 1) := by decide +kernel
theorem dX1_stale_32 : decode cX1_stale 32 = .ok (.aload_n 0, 1) := by decide +kernel
theorem dX1_stale_33 : decode cX1_stale 33 = .ok (.getfield 20, 3) := by decide +kernel
theorem dX1_stale_36 : decode cX1_stale 36 = .ok (.iload_n 1, 1) := by decide +kernel
theorem dX1_stale_37 : decode cX1_stale 37 = .ok (.iconst 1, 1) := by decide +kernel
theorem dX1_stale_38 : decode cX1_stale 38 = .ok (.bastore, 1) := by decide +kernel
theorem dX1_stale_39 : decode cX1_stale 39 = .ok (.iconst 1, 1) := by decide +kernel
theorem dX1_stale_40 : decode cX1_stale 40 = .ok (.ireturn, 1) := by decide +kernel
theorem dX1_isThere_0 : decode cX1_isThere 0 = .ok (.iload_n 1, 1) := by decide +kernel
theorem dX1_isThere_1 : decode cX1_isThere 1 = .ok (.ifCond .lt 23, 3) := by decide +kernel
theorem dX1_isThere_4 : decode cX1_isThere 4 = .ok (.iload_n 1, 1) := by decide +kernel
theorem dX1_isThere_5 : decode cX1_isThere 5 = .ok (.sipush 600, 3) := by decide +kernel
theorem dX1_isThere_8 : decode cX1_isThere 8 = .ok (.if_icmp .ge 16, 3) := by decide +kernel
theorem dX1_isThere_11 : decode cX1_isThere 11 = .ok (.aload_n 0, 1) := by decide +kernel
theorem dX1_isThere_12 : decode cX1_isThere 12 = .ok (.getfield 7, 3) := by decide +kernel
theorem dX1_isThere_15 : decode cX1_isThere 15 = .ok (.iload_n 1, 1) := by decide +kernel
theorem dX1_isThere_16 : decode cX1_isThere 16 = .ok (.baload, 1) := by decide +kernel
theorem dX1_isThere_17 : decode cX1_isThere 17 = .ok (.ifCond .eq 7, 3) := by decide +kernel
theorem dX1_isThere_20 : decode cX1_isThere 20 = .ok (.iconst 1, 1) := by decide +kernel
theorem dX1_isThere_21 : decode cX1_isThere 21 = .ok (.goto 4, 3) := by decide +kernel
theorem dX1_isThere_24 : decode cX1_isThere 24 = .ok (.iconst 0, 1) := by decide +kernel
theorem dX1_isThere_25 : decode cX1_isThere 25 = .ok (.ireturn, 1) := by decide +kernel
theorem dX1_isEnded_0 : decode cX1_isEnded 0 = .ok (.aload_n 0, 1) := by decide +kernel
theorem dX1_isEnded_1 : decode cX1_isEnded 1 = .ok (.iconst 2, 1) := by decide +kernel
theorem dX1_isEnded_2 : decode cX1_isEnded 2 = .ok (.iload_n 1, 1) := by decide +kernel
theorem dX1_isEnded_3 : decode cX1_isEnded 3 = .ok (.imul, 1) := by decide +kernel
theorem dX1_isEnded_4 : decode cX1_isEnded 4 = .ok (.iconst 1, 1) := by decide +kernel
theorem dX1_isEnded_5 : decode cX1_isEnded 5 = .ok (.iadd, 1) := by decide +kernel
theorem dX1_isEnded_6 : decode cX1_isEnded 6 = .ok (.invokevirtual 54, 3) := by decide +kernel
theorem dX1_isEnded_9 : decode cX1_isEnded 9 = .ok (.ifCond .lt 7, 3) := by decide +kernel
theorem dX1_isEnded_12 : decode cX1_isEnded 12 = .ok (.iconst 1, 1) := by decide +kernel
theorem dX1_isEnded_13 : decode cX1_isEnded 13 = .ok (.goto 4, 3) := by decide +kernel
theorem dX1_isEnded_16 : decode cX1_isEnded 16 = .ok (.iconst 0, 1) := by decide +kernel
theorem dX1_isEnded_17 : decode cX1_isEnded 17 = .ok (.ireturn, 1) := by decide +kernel
theorem dX1_find_0 : decode cX1_find 0 = .ok (.iconst 0, 1) := by decide +kernel
theorem dX1_find_1 : decode cX1_find 1 = .ok (.istore_n 2, 1) := by decide +kernel
theorem dX1_find_2 : decode cX1_find 2 = .ok (.iload_n 2, 1) := by decide +kernel
theorem dX1_find_3 : decode cX1_find 3 = .ok (.aload_n 0, 1) := by decide +kernel
theorem dX1_find_4 : decode cX1_find 4 = .ok (.getfield 48, 3) := by decide +kernel
theorem dX1_find_7 : decode cX1_find 7 = .ok (.if_icmp .ge 21, 3) := by decide +kernel
theorem dX1_find_10 : decode cX1_find 10 = .ok (.aload_n 0, 1) := by decide +kernel
theorem dX1_find_11 : decode cX1_find 11 = .ok (.getfield 23, 3) := by decide +kernel
theorem dX1_find_14 : decode cX1_find 14 = .ok (.iload_n 2, 1) := by decide +kernel
theorem dX1_find_15 : decode cX1_find 15 = .ok (.iaload, 1) := by decide +kernel
theorem dX1_find_16 : decode cX1_find 16 = .ok (.iload_n 1, 1) := by decide +kernel
theorem dX1_find_17 : decode cX1_find 17 = .ok (.if_icmp .ne 5, 3) := by decide +kernel
theorem dX1_find_20 : decode cX1_find 20 = .ok (.iload_n 2, 1) := by decide +kernel
theorem dX1_find_21 : decode cX1_find 21 = .ok (.ireturn, 1) := by decide +kernel
theorem dX1_find_22 : decode cX1_find 22 = .ok (.iinc 2 1, 3) := by decide +kernel
theorem dX1_find_25 : decode cX1_find 25 = .ok (.goto (-23), 3) := by decide +kernel
theorem dX1_find_28 : decode cX1_find 28 = .ok (.iconst (-1), 1) := by decide +kernel
theorem dX1_find_29 : decode cX1_find 29 = .ok (.ireturn, 1) := by decide +kernel
theorem dX1_resume_0 : decode cX1_resume 0 = .ok (.aload_n 0, 1) := by decide +kernel
theorem dX1_resume_1 : decode cX1_resume 1 = .ok (.iconst 0, 1) := by decide +kernel
theorem dX1_resume_2 : decode cX1_resume 2 = .ok (.putfield 45, 3) := by decide +kernel
theorem dX1_resume_5 : decode cX1_resume 5 = .ok (.aload_n 0, 1) := by decide +kernel
theorem dX1_resume_6 : decode cX1_resume 6 = .ok (.getfield 26, 3) := by decide +kernel
theorem dX1_resume_9 : decode cX1_resume 9 = .ok (.iconst 1, 1) := by decide +kernel
theorem dX1_resume_10 : decode cX1_resume 10 = .ok (.if_icmp .le 19, 3) := by decide +kernel
theorem dX1_resume_13 : decode cX1_resume 13 = .ok (.aload_n 0, 1) := by decide +kernel
theorem dX1_resume_14 : decode cX1_resume 14 = .ok (.getfield 33, 3) := by decide +kernel
theorem dX1_resume_17 : decode cX1_resume 17 = .ok (.aload_n 0, 1) := by decide +kernel
theorem dX1_resume_18 : decode cX1_resume 18 = .ok (.invokevirtual 58, 3) := by decide +kernel
theorem dX1_resume_21 : decode cX1_resume 21 = .ok (.baload, 1) := by decide +kernel
theorem dX1_resume_22 : decode cX1_resume 22 = .ok (.ifCond .ne 7, 3) := by decide +kernel
theorem dX1_resume_25 : decode cX1_resume 25 = .ok (.iconst 1, 1) := by decide +kernel
theorem dX1_resume_26 : decode cX1_resume 26 = .ok (.goto 4, 3) := by decide +kernel
theorem dX1_resume_29 : decode cX1_resume 29 = .ok (.iconst 0, 1) := by decide +kernel
theorem dX1_resume_30 : decode cX1_resume 30 = .ok (.istore_n 1, 1) := by decide +kernel
theorem dX1_resume_31 : decode cX1_resume 31 = .ok (.iload_n 1, 1) := by decide +kernel
theorem dX1_resume_32 : decode cX1_resume 32 = .ok (.ifCond .ne 19, 3) := by decide +kernel
theorem dX1_resume_35 : decode cX1_resume 35 = .ok (.aload_n 0, 1) := by decide +kernel
theorem dX1_resume_36 : decode cX1_resume 36 = .ok (.invokevirtual 75, 3) := by decide +kernel
theorem dX1_resume_39 : decode cX1_resume 39 = .ok (.ifCond .ne 12, 3) := by decide +kernel
theorem dX1_resume_42 : decode cX1_resume 42 = .ok (.aload_n 0, 1) := by decide +kernel
theorem dX1_resume_43 : decode cX1_resume 43 = .ok (.getfield 26, 3) := by decide +kernel
theorem dX1_resume_46 : decode cX1_resume 46 = .ok (.bipush 64, 2) := by decide +kernel
theorem dX1_resume_48 : decode cX1_resume 48 = .ok (.if_icmp .ne 5, 3) := by decide +kernel
theorem dX1_resume_51 : decode cX1_resume 51 = .ok (.iconst (-1), 1) := by decide +kernel
theorem dX1_resume_52 : decode cX1_resume 52 = .ok (.ireturn, 1) := by decide +kernel
theorem dX1_resume_53 : decode cX1_resume 53 = .ok (.aload_n 0, 1) := by decide +kernel
theorem dX1_resume_54 : decode cX1_resume 54 = .ok (.invokevirtual 62, 3) := by decide +kernel
theorem dX1_resume_57 : decode cX1_resume 57 = .ok (.istore_n 2, 1) := by decide +kernel
theorem dX1_resume_58 : decode cX1_resume 58 = .ok (.aload_n 0, 1) := by decide +kernel
theorem dX1_resume_59 : decode cX1_resume 59 = .ok (.getfield 51, 3) := by decide +kernel
theorem dX1_resume_62 : decode cX1_resume 62 = .ok (.istore_n 3, 1) := by decide +kernel
theorem dX1_resume_63 : decode cX1_resume 63 = .ok (.iload_n 3, 1) := by decide +kernel
theorem dX1_resume_64 : decode cX1_resume 64 = .ok (.iload_n 2, 1) := by decide +kernel
theorem dX1_resume_65 : decode cX1_resume 65 = .ok (.if_icmp .ge 66, 3) := by decide +kernel
theorem dX1_resume_68 : decode cX1_resume 68 = .ok (.aload_n 0, 1) := by decide +kernel
theorem dX1_resume_69 : decode cX1_resume 69 = .ok (.getfield 23, 3) := by decide +kernel
theorem dX1_resume_72 : decode cX1_resume 72 = .ok (.iload_n 3, 1) := by decide +kernel
theorem dX1_resume_73 : decode cX1_resume 73 = .ok (.iaload, 1) := by decide +kernel
theorem dX1_resume_74 : decode cX1_resume 74 = .ok (.iconst 2, 1) := by decide +kernel
theorem dX1_resume_75 : decode cX1_resume 75 = .ok (.idiv, 1) := by decide +kernel
theorem dX1_resume_76 : decode cX1_resume 76 = .ok (.istore 4, 2) := by decide +kernel
theorem dX1_resume_78 : decode cX1_resume 78 = .ok (.aload_n 0, 1) := by decide +kernel
theorem dX1_resume_79 : decode cX1_resume 79 = .ok (.getfield 23, 3) := by decide +kernel
theorem dX1_resume_82 : decode cX1_resume 82 = .ok (.iload_n 3, 1) := by decide +kernel
theorem dX1_resume_83 : decode cX1_resume 83 = .ok (.iaload, 1) := by decide +kernel
theorem dX1_resume_84 : decode cX1_resume 84 = .ok (.iconst 2, 1) := by decide +kernel
theorem dX1_resume_85 : decode cX1_resume 85 = .ok (.irem, 1) := by decide +kernel
theorem dX1_resume_86 : decode cX1_resume 86 = .ok (.ifCond .ne 39, 3) := by decide +kernel
theorem dX1_resume_89 : decode cX1_resume 89 = .ok (.aload_n 0, 1) := by decide +kernel
theorem dX1_resume_90 : decode cX1_resume 90 = .ok (.getfield 20, 3) := by decide +kernel
theorem dX1_resume_93 : decode cX1_resume 93 = .ok (.iload 4, 2) := by decide +kernel
theorem dX1_resume_95 : decode cX1_resume 95 = .ok (.baload, 1) := by decide +kernel
theorem dX1_resume_96 : decode cX1_resume 96 = .ok (.ifCond .eq 29, 3) := by decide +kernel
theorem dX1_resume_99 : decode cX1_resume 99 = .ok (.aload_n 0, 1) := by decide +kernel
theorem dX1_resume_100 : decode cX1_resume 100 = .ok (.getfield 20, 3) := by decide +kernel
theorem dX1_resume_103 : decode cX1_resume 103 = .ok (.iload 4, 2) := by decide +kernel
theorem dX1_resume_105 : decode cX1_resume 105 = .ok (.iconst 0, 1) := by decide +kernel
theorem dX1_resume_106 : decode cX1_resume 106 = .ok (.bastore, 1) := by decide +kernel
theorem dX1_resume_107 : decode cX1_resume 107 = .ok (.aload_n 0, 1) := by decide +kernel
theorem dX1_resume_108 : decode cX1_resume 108 = .ok (.getfield 17, 3) := by decide +kernel
theorem dX1_resume_111 : decode cX1_resume 111 = .ok (.iload 4, 2) := by decide +kernel
theorem dX1_resume_113 : decode cX1_resume 113 = .ok (.iconst 0, 1) := by decide +kernel
theorem dX1_resume_114 : decode cX1_resume 114 = .ok (.iastore, 1) := by decide +kernel
theorem dX1_resume_115 : decode cX1_resume 115 = .ok (.aload_n 0, 1) := by decide +kernel
theorem dX1_resume_116 : decode cX1_resume 116 = .ok (.iload 4, 2) := by decide +kernel
theorem dX1_resume_118 : decode cX1_resume 118 = .ok (.iconst 0, 1) := by decide +kernel
theorem dX1_resume_119 : decode cX1_resume 119 = .ok (.invokevirtual 95, 3) := by decide +kernel
theorem dX1_resume_122 : decode cX1_resume 122 = .ok (.iload 4, 2) := by decide +kernel
theorem dX1_resume_124 : decode cX1_resume 124 = .ok (.ireturn, 1) := by decide +kernel
theorem dX1_resume_125 : decode cX1_resume 125 = .ok (.iinc 3 1, 3) := by decide +kernel
theorem dX1_resume_128 : decode cX1_resume 128 = .ok (.goto (-65), 3) := by decide +kernel
theorem dX1_resume_131 : decode cX1_resume 131 = .ok (.iconst (-1), 1) := by decide +kernel
theorem dX1_resume_132 : decode cX1_resume 132 = .ok (.ireturn, 1) := by decide +kernel
theorem dX1_limit_0 : decode cX1_limit 0 = .ok (.aload_n 0, 1) := by decide +kernel
theorem dX1_limit_1 : decode cX1_limit 1 = .ok (.getfield 26, 3) := by decide +kernel
theorem dX1_limit_4 : decode cX1_limit 4 = .ok (.iconst 1, 1) := by decide +kernel
theorem dX1_limit_5 : decode cX1_limit 5 = .ok (.if_icmp .ne 10, 3) := by decide +kernel
theorem dX1_limit_8 : decode cX1_limit 8 = .ok (.aload_n 0, 1) := by decide +kernel
theorem dX1_limit_9 : decode cX1_limit 9 = .ok (.getfield 48, 3) := by decide +kernel
theorem dX1_limit_12 : decode cX1_limit 12 = .ok (.goto 20, 3) := by decide +kernel
theorem dX1_limit_15 : decode cX1_limit 15 = .ok (.aload_n 0, 1) := by decide +kernel
theorem dX1_limit_16 : decode cX1_limit 16 = .ok (.iconst 2, 1) := by decide +kernel
theorem dX1_limit_17 : decode cX1_limit 17 = .ok (.aload_n 0, 1) := by decide +kernel
theorem dX1_limit_18 : decode cX1_limit 18 = .ok (.getfield 30, 3) := by decide +kernel
theorem dX1_limit_21 : decode cX1_limit 21 = .ok (.aload_n 0, 1) := by decide +kernel
theorem dX1_limit_22 : decode cX1_limit 22 = .ok (.invokevirtual 58, 3) := by decide +kernel
theorem dX1_limit_25 : decode cX1_limit 25 = .ok (.iaload, 1) := by decide +kernel
theorem dX1_limit_26 : decode cX1_limit 26 = .ok (.imul, 1) := by decide +kernel
theorem dX1_limit_27 : decode cX1_limit 27 = .ok (.iconst 1, 1) := by decide +kernel
theorem dX1_limit_28 : decode cX1_limit 28 = .ok (.iadd, 1) := by decide +kernel
theorem dX1_limit_29 : decode cX1_limit 29 = .ok (.invokevirtual 54, 3) := by decide +kernel
theorem dX1_limit_32 : decode cX1_limit 32 = .ok (.ireturn, 1) := by decide +kernel
theorem dX1_frame_0 : decode cX1_frame 0 = .ok (.aload_n 0, 1) := by decide +kernel
theorem dX1_frame_1 : decode cX1_frame 1 = .ok (.getfield 30, 3) := by decide +kernel
theorem dX1_frame_4 : decode cX1_frame 4 = .ok (.aload_n 0, 1) := by decide +kernel
theorem dX1_frame_5 : decode cX1_frame 5 = .ok (.getfield 26, 3) := by decide +kernel
theorem dX1_frame_8 : decode cX1_frame 8 = .ok (.iload_n 1, 1) := by decide +kernel
theorem dX1_frame_9 : decode cX1_frame 9 = .ok (.iastore, 1) := by decide +kernel
theorem dX1_frame_10 : decode cX1_frame 10 = .ok (.aload_n 0, 1) := by decide +kernel
theorem dX1_frame_11 : decode cX1_frame 11 = .ok (.getfield 33, 3) := by decide +kernel
theorem dX1_frame_14 : decode cX1_frame 14 = .ok (.aload_n 0, 1) := by decide +kernel
theorem dX1_frame_15 : decode cX1_frame 15 = .ok (.getfield 26, 3) := by decide +kernel
theorem dX1_frame_18 : decode cX1_frame 18 = .ok (.iload_n 2, 1) := by decide +kernel
theorem dX1_frame_19 : decode cX1_frame 19 = .ok (.bastore, 1) := by decide +kernel
theorem dX1_frame_20 : decode cX1_frame 20 = .ok (.aload_n 0, 1) := by decide +kernel
theorem dX1_frame_21 : decode cX1_frame 21 = .ok (.dup, 1) := by decide +kernel
theorem dX1_frame_22 : decode cX1_frame 22 = .ok (.getfield 26, 3) := by decide +kernel
theorem dX1_frame_25 : decode cX1_frame 25 = .ok (.iconst 1, 1) := by decide +kernel
theorem dX1_frame_26 : decode cX1_frame 26 = .ok (.iadd, 1) := by decide +kernel
theorem dX1_frame_27 : decode cX1_frame 27 = .ok (.putfield 26, 3) := by decide +kernel
theorem dX1_frame_30 : decode cX1_frame 30 = .ok (.aload_n 0, 1) := by decide +kernel
theorem dX1_frame_31 : decode cX1_frame 31 = .ok (.aload_n 0, 1) := by decide +kernel
theorem dX1_frame_32 : decode cX1_frame 32 = .ok (.iconst 2, 1) := by decide +kernel
theorem dX1_frame_33 : decode cX1_frame 33 = .ok (.iload_n 1, 1) := by decide +kernel
theorem dX1_frame_34 : decode cX1_frame 34 = .ok (.imul, 1) := by decide +kernel
theorem dX1_frame_35 : decode cX1_frame 35 = .ok (.invokevirtual 54, 3) := by decide +kernel
theorem dX1_frame_38 : decode cX1_frame 38 = .ok (.iconst 1, 1) := by decide +kernel
theorem dX1_frame_39 : decode cX1_frame 39 = .ok (.iadd, 1) := by decide +kernel
theorem dX1_frame_40 : decode cX1_frame 40 = .ok (.putfield 51, 3) := by decide +kernel
theorem dX1_frame_43 : decode cX1_frame 43 = .ok (.return_, 1) := by decide +kernel
theorem dX1_take_0 : decode cX1_take 0 = .ok (.aload_n 0, 1) := by decide +kernel
theorem dX1_take_1 : decode cX1_take 1 = .ok (.iconst 0, 1) := by decide +kernel
theorem dX1_take_2 : decode cX1_take 2 = .ok (.putfield 45, 3) := by decide +kernel
theorem dX1_take_5 : decode cX1_take 5 = .ok (.aload_n 0, 1) := by decide +kernel
theorem dX1_take_6 : decode cX1_take 6 = .ok (.getfield 26, 3) := by decide +kernel
theorem dX1_take_9 : decode cX1_take 9 = .ok (.iconst 1, 1) := by decide +kernel
theorem dX1_take_10 : decode cX1_take 10 = .ok (.if_icmp .eq 24, 3) := by decide +kernel
theorem dX1_take_13 : decode cX1_take 13 = .ok (.aload_n 0, 1) := by decide +kernel
theorem dX1_take_14 : decode cX1_take 14 = .ok (.getfield 33, 3) := by decide +kernel
theorem dX1_take_17 : decode cX1_take 17 = .ok (.aload_n 0, 1) := by decide +kernel
theorem dX1_take_18 : decode cX1_take 18 = .ok (.invokevirtual 58, 3) := by decide +kernel
theorem dX1_take_21 : decode cX1_take 21 = .ok (.baload, 1) := by decide +kernel
theorem dX1_take_22 : decode cX1_take 22 = .ok (.ifCond .ne 12, 3) := by decide +kernel
theorem dX1_take_25 : decode cX1_take 25 = .ok (.aload_n 0, 1) := by decide +kernel
theorem dX1_take_26 : decode cX1_take 26 = .ok (.getfield 26, 3) := by decide +kernel
theorem dX1_take_29 : decode cX1_take 29 = .ok (.bipush 64, 2) := by decide +kernel
theorem dX1_take_31 : decode cX1_take 31 = .ok (.if_icmp .ne 5, 3) := by decide +kernel
theorem dX1_take_34 : decode cX1_take 34 = .ok (.iconst (-1), 1) := by decide +kernel
theorem dX1_take_35 : decode cX1_take 35 = .ok (.ireturn, 1) := by decide +kernel
theorem dX1_take_36 : decode cX1_take 36 = .ok (.aload_n 0, 1) := by decide +kernel
theorem dX1_take_37 : decode cX1_take 37 = .ok (.invokevirtual 62, 3) := by decide +kernel
theorem dX1_take_40 : decode cX1_take 40 = .ok (.istore_n 2, 1) := by decide +kernel
theorem dX1_take_41 : decode cX1_take 41 = .ok (.aload_n 0, 1) := by decide +kernel
theorem dX1_take_42 : decode cX1_take 42 = .ok (.getfield 51, 3) := by decide +kernel
theorem dX1_take_45 : decode cX1_take 45 = .ok (.istore_n 3, 1) := by decide +kernel
theorem dX1_take_46 : decode cX1_take 46 = .ok (.iload_n 3, 1) := by decide +kernel
theorem dX1_take_47 : decode cX1_take 47 = .ok (.iload_n 2, 1) := by decide +kernel
theorem dX1_take_48 : decode cX1_take 48 = .ok (.if_icmp .ge 96, 3) := by decide +kernel
theorem dX1_take_51 : decode cX1_take 51 = .ok (.aload_n 0, 1) := by decide +kernel
theorem dX1_take_52 : decode cX1_take 52 = .ok (.getfield 23, 3) := by decide +kernel
theorem dX1_take_55 : decode cX1_take 55 = .ok (.iload_n 3, 1) := by decide +kernel
theorem dX1_take_56 : decode cX1_take 56 = .ok (.iaload, 1) := by decide +kernel
theorem dX1_take_57 : decode cX1_take 57 = .ok (.iconst 2, 1) := by decide +kernel
theorem dX1_take_58 : decode cX1_take 58 = .ok (.idiv, 1) := by decide +kernel
theorem dX1_take_59 : decode cX1_take 59 = .ok (.istore 4, 2) := by decide +kernel
theorem dX1_take_61 : decode cX1_take 61 = .ok (.aload_n 0, 1) := by decide +kernel
theorem dX1_take_62 : decode cX1_take 62 = .ok (.getfield 23, 3) := by decide +kernel
theorem dX1_take_65 : decode cX1_take 65 = .ok (.iload_n 3, 1) := by decide +kernel
theorem dX1_take_66 : decode cX1_take 66 = .ok (.iaload, 1) := by decide +kernel
theorem dX1_take_67 : decode cX1_take 67 = .ok (.iconst 2, 1) := by decide +kernel
theorem dX1_take_68 : decode cX1_take 68 = .ok (.irem, 1) := by decide +kernel
theorem dX1_take_69 : decode cX1_take 69 = .ok (.ifCond .ne 69, 3) := by decide +kernel
theorem dX1_take_72 : decode cX1_take 72 = .ok (.aload_n 0, 1) := by decide +kernel
theorem dX1_take_73 : decode cX1_take 73 = .ok (.getfield 13, 3) := by decide +kernel
theorem dX1_take_76 : decode cX1_take 76 = .ok (.iload 4, 2) := by decide +kernel
theorem dX1_take_78 : decode cX1_take 78 = .ok (.iaload, 1) := by decide +kernel
theorem dX1_take_79 : decode cX1_take 79 = .ok (.iload_n 1, 1) := by decide +kernel
theorem dX1_take_80 : decode cX1_take 80 = .ok (.if_icmp .ne 58, 3) := by decide +kernel
theorem dX1_take_83 : decode cX1_take 83 = .ok (.aload_n 0, 1) := by decide +kernel
theorem dX1_take_84 : decode cX1_take 84 = .ok (.getfield 20, 3) := by decide +kernel
theorem dX1_take_87 : decode cX1_take 87 = .ok (.iload 4, 2) := by decide +kernel
theorem dX1_take_89 : decode cX1_take 89 = .ok (.baload, 1) := by decide +kernel
theorem dX1_take_90 : decode cX1_take 90 = .ok (.ifCond .ne 48, 3) := by decide +kernel
theorem dX1_take_93 : decode cX1_take 93 = .ok (.aload_n 0, 1) := by decide +kernel
theorem dX1_take_94 : decode cX1_take 94 = .ok (.iload 4, 2) := by decide +kernel
theorem dX1_take_96 : decode cX1_take 96 = .ok (.invokevirtual 92, 3) := by decide +kernel
theorem dX1_take_99 : decode cX1_take 99 = .ok (.ifCond .eq 39, 3) := by decide +kernel
theorem dX1_take_102 : decode cX1_take 102 = .ok (.aload_n 0, 1) := by decide +kernel
theorem dX1_take_103 : decode cX1_take 103 = .ok (.aload_n 0, 1) := by decide +kernel
theorem dX1_take_104 : decode cX1_take 104 = .ok (.iconst 2, 1) := by decide +kernel
theorem dX1_take_105 : decode cX1_take 105 = .ok (.iload 4, 2) := by decide +kernel
theorem dX1_take_107 : decode cX1_take 107 = .ok (.imul, 1) := by decide +kernel
theorem dX1_take_108 : decode cX1_take 108 = .ok (.iconst 1, 1) := by decide +kernel
theorem dX1_take_109 : decode cX1_take 109 = .ok (.iadd, 1) := by decide +kernel
theorem dX1_take_110 : decode cX1_take 110 = .ok (.invokevirtual 54, 3) := by decide +kernel
theorem dX1_take_113 : decode cX1_take 113 = .ok (.invokevirtual 99, 3) := by decide +kernel
theorem dX1_take_116 : decode cX1_take 116 = .ok (.ifCond .eq 22, 3) := by decide +kernel
theorem dX1_take_119 : decode cX1_take 119 = .ok (.aload_n 0, 1) := by decide +kernel
theorem dX1_take_120 : decode cX1_take 120 = .ok (.aload_n 0, 1) := by decide +kernel
theorem dX1_take_121 : decode cX1_take 121 = .ok (.getfield 51, 3) := by decide +kernel
theorem dX1_take_124 : decode cX1_take 124 = .ok (.iload_n 3, 1) := by decide +kernel
theorem dX1_take_125 : decode cX1_take 125 = .ok (.invokevirtual 102, 3) := by decide +kernel
theorem dX1_take_128 : decode cX1_take 128 = .ok (.aload_n 0, 1) := by decide +kernel
theorem dX1_take_129 : decode cX1_take 129 = .ok (.iload 4, 2) := by decide +kernel
theorem dX1_take_131 : decode cX1_take 131 = .ok (.iconst 1, 1) := by decide +kernel
theorem dX1_take_132 : decode cX1_take 132 = .ok (.invokevirtual 95, 3) := by decide +kernel
theorem dX1_take_135 : decode cX1_take 135 = .ok (.iload 4, 2) := by decide +kernel
theorem dX1_take_137 : decode cX1_take 137 = .ok (.ireturn, 1) := by decide +kernel
theorem dX1_take_138 : decode cX1_take 138 = .ok (.iinc 3 1, 3) := by decide +kernel
theorem dX1_take_141 : decode cX1_take 141 = .ok (.goto (-95), 3) := by decide +kernel
theorem dX1_take_144 : decode cX1_take 144 = .ok (.iconst (-1), 1) := by decide +kernel
theorem dX1_take_145 : decode cX1_take 145 = .ok (.ireturn, 1) := by decide +kernel
theorem dX1_isAhead_0 : decode cX1_isAhead 0 = .ok (.iload_n 1, 1) := by decide +kernel
theorem dX1_isAhead_1 : decode cX1_isAhead 1 = .ok (.aload_n 0, 1) := by decide +kernel
theorem dX1_isAhead_2 : decode cX1_isAhead 2 = .ok (.getfield 51, 3) := by decide +kernel
theorem dX1_isAhead_5 : decode cX1_isAhead 5 = .ok (.if_icmp .lt 15, 3) := by decide +kernel
theorem dX1_isAhead_8 : decode cX1_isAhead 8 = .ok (.iload_n 1, 1) := by decide +kernel
theorem dX1_isAhead_9 : decode cX1_isAhead 9 = .ok (.aload_n 0, 1) := by decide +kernel
theorem dX1_isAhead_10 : decode cX1_isAhead 10 = .ok (.invokevirtual 62, 3) := by decide +kernel
theorem dX1_isAhead_13 : decode cX1_isAhead 13 = .ok (.if_icmp .ge 7, 3) := by decide +kernel
theorem dX1_isAhead_16 : decode cX1_isAhead 16 = .ok (.iconst 1, 1) := by decide +kernel
theorem dX1_isAhead_17 : decode cX1_isAhead 17 = .ok (.goto 4, 3) := by decide +kernel
theorem dX1_isAhead_20 : decode cX1_isAhead 20 = .ok (.iconst 0, 1) := by decide +kernel
theorem dX1_isAhead_21 : decode cX1_isAhead 21 = .ok (.ireturn, 1) := by decide +kernel
theorem dX1_erase_0 : decode cX1_erase 0 = .ok (.iconst 0, 1) := by decide +kernel
theorem dX1_erase_1 : decode cX1_erase 1 = .ok (.istore_n 3, 1) := by decide +kernel
theorem dX1_erase_2 : decode cX1_erase 2 = .ok (.iload_n 3, 1) := by decide +kernel
theorem dX1_erase_3 : decode cX1_erase 3 = .ok (.sipush 600, 3) := by decide +kernel
theorem dX1_erase_6 : decode cX1_erase 6 = .ok (.if_icmp .ge 16, 3) := by decide +kernel
theorem dX1_erase_9 : decode cX1_erase 9 = .ok (.aload_n 0, 1) := by decide +kernel
theorem dX1_erase_10 : decode cX1_erase 10 = .ok (.getfield 42, 3) := by decide +kernel
theorem dX1_erase_13 : decode cX1_erase 13 = .ok (.iload_n 3, 1) := by decide +kernel
theorem dX1_erase_14 : decode cX1_erase 14 = .ok (.iconst 0, 1) := by decide +kernel
theorem dX1_erase_15 : decode cX1_erase 15 = .ok (.bastore, 1) := by decide +kernel
theorem dX1_erase_16 : decode cX1_erase 16 = .ok (.iinc 3 1, 3) := by decide +kernel
theorem dX1_erase_19 : decode cX1_erase 19 = .ok (.goto (-17), 3) := by decide +kernel
theorem dX1_erase_22 : decode cX1_erase 22 = .ok (.iload_n 1, 1) := by decide +kernel
theorem dX1_erase_23 : decode cX1_erase 23 = .ok (.istore_n 3, 1) := by decide +kernel
theorem dX1_erase_24 : decode cX1_erase 24 = .ok (.iload_n 3, 1) := by decide +kernel
theorem dX1_erase_25 : decode cX1_erase 25 = .ok (.iload_n 2, 1) := by decide +kernel
theorem dX1_erase_26 : decode cX1_erase 26 = .ok (.if_icmp .ge 23, 3) := by decide +kernel
theorem dX1_erase_29 : decode cX1_erase 29 = .ok (.aload_n 0, 1) := by decide +kernel
theorem dX1_erase_30 : decode cX1_erase 30 = .ok (.getfield 42, 3) := by decide +kernel
theorem dX1_erase_33 : decode cX1_erase 33 = .ok (.aload_n 0, 1) := by decide +kernel
theorem dX1_erase_34 : decode cX1_erase 34 = .ok (.getfield 23, 3) := by decide +kernel
theorem dX1_erase_37 : decode cX1_erase 37 = .ok (.iload_n 3, 1) := by decide +kernel
theorem dX1_erase_38 : decode cX1_erase 38 = .ok (.iaload, 1) := by decide +kernel
theorem dX1_erase_39 : decode cX1_erase 39 = .ok (.iconst 2, 1) := by decide +kernel
theorem dX1_erase_40 : decode cX1_erase 40 = .ok (.idiv, 1) := by decide +kernel
theorem dX1_erase_41 : decode cX1_erase 41 = .ok (.iconst 1, 1) := by decide +kernel
theorem dX1_erase_42 : decode cX1_erase 42 = .ok (.bastore, 1) := by decide +kernel
theorem dX1_erase_43 : decode cX1_erase 43 = .ok (.iinc 3 1, 3) := by decide +kernel
theorem dX1_erase_46 : decode cX1_erase 46 = .ok (.goto (-22), 3) := by decide +kernel
theorem dX1_erase_49 : decode cX1_erase 49 = .ok (.iconst 0, 1) := by decide +kernel
theorem dX1_erase_50 : decode cX1_erase 50 = .ok (.istore_n 3, 1) := by decide +kernel
theorem dX1_erase_51 : decode cX1_erase 51 = .ok (.aload_n 0, 1) := by decide +kernel
theorem dX1_erase_52 : decode cX1_erase 52 = .ok (.getfield 51, 3) := by decide +kernel
theorem dX1_erase_55 : decode cX1_erase 55 = .ok (.istore 4, 2) := by decide +kernel
theorem dX1_erase_57 : decode cX1_erase 57 = .ok (.iconst 0, 1) := by decide +kernel
theorem dX1_erase_58 : decode cX1_erase 58 = .ok (.istore 5, 2) := by decide +kernel
theorem dX1_erase_60 : decode cX1_erase 60 = .ok (.iload 5, 2) := by decide +kernel
theorem dX1_erase_62 : decode cX1_erase 62 = .ok (.aload_n 0, 1) := by decide +kernel
theorem dX1_erase_63 : decode cX1_erase 63 = .ok (.getfield 48, 3) := by decide +kernel
theorem dX1_erase_66 : decode cX1_erase 66 = .ok (.if_icmp .ge 66, 3) := by decide +kernel
theorem dX1_erase_69 : decode cX1_erase 69 = .ok (.aload_n 0, 1) := by decide +kernel
theorem dX1_erase_70 : decode cX1_erase 70 = .ok (.getfield 42, 3) := by decide +kernel
theorem dX1_erase_73 : decode cX1_erase 73 = .ok (.aload_n 0, 1) := by decide +kernel
theorem dX1_erase_74 : decode cX1_erase 74 = .ok (.getfield 23, 3) := by decide +kernel
theorem dX1_erase_77 : decode cX1_erase 77 = .ok (.iload 5, 2) := by decide +kernel
theorem dX1_erase_79 : decode cX1_erase 79 = .ok (.iaload, 1) := by decide +kernel
theorem dX1_erase_80 : decode cX1_erase 80 = .ok (.iconst 2, 1) := by decide +kernel
theorem dX1_erase_81 : decode cX1_erase 81 = .ok (.idiv, 1) := by decide +kernel
theorem dX1_erase_82 : decode cX1_erase 82 = .ok (.baload, 1) := by decide +kernel
theorem dX1_erase_83 : decode cX1_erase 83 = .ok (.ifCond .eq 27, 3) := by decide +kernel
theorem dX1_erase_86 : decode cX1_erase 86 = .ok (.aload_n 0, 1) := by decide +kernel
theorem dX1_erase_87 : decode cX1_erase 87 = .ok (.dup, 1) := by decide +kernel
theorem dX1_erase_88 : decode cX1_erase 88 = .ok (.getfield 51, 3) := by decide +kernel
theorem dX1_erase_91 : decode cX1_erase 91 = .ok (.iload 5, 2) := by decide +kernel
theorem dX1_erase_93 : decode cX1_erase 93 = .ok (.iload 4, 2) := by decide +kernel
theorem dX1_erase_95 : decode cX1_erase 95 = .ok (.if_icmp .ge 7, 3) := by decide +kernel
theorem dX1_erase_98 : decode cX1_erase 98 = .ok (.iconst 1, 1) := by decide +kernel
theorem dX1_erase_99 : decode cX1_erase 99 = .ok (.goto 4, 3) := by decide +kernel
theorem dX1_erase_102 : decode cX1_erase 102 = .ok (.iconst 0, 1) := by decide +kernel
theorem dX1_erase_103 : decode cX1_erase 103 = .ok (.isub, 1) := by decide +kernel
theorem dX1_erase_104 : decode cX1_erase 104 = .ok (.putfield 51, 3) := by decide +kernel
theorem dX1_erase_107 : decode cX1_erase 107 = .ok (.goto 19, 3) := by decide +kernel
theorem dX1_erase_110 : decode cX1_erase 110 = .ok (.aload_n 0, 1) := by decide +kernel
theorem dX1_erase_111 : decode cX1_erase 111 = .ok (.getfield 23, 3) := by decide +kernel
theorem dX1_erase_114 : decode cX1_erase 114 = .ok (.iload_n 3, 1) := by decide +kernel
theorem dX1_erase_115 : decode cX1_erase 115 = .ok (.aload_n 0, 1) := by decide +kernel
theorem dX1_erase_116 : decode cX1_erase 116 = .ok (.getfield 23, 3) := by decide +kernel
theorem dX1_erase_119 : decode cX1_erase 119 = .ok (.iload 5, 2) := by decide +kernel
theorem dX1_erase_121 : decode cX1_erase 121 = .ok (.iaload, 1) := by decide +kernel
theorem dX1_erase_122 : decode cX1_erase 122 = .ok (.iastore, 1) := by decide +kernel
theorem dX1_erase_123 : decode cX1_erase 123 = .ok (.iinc 3 1, 3) := by decide +kernel
theorem dX1_erase_126 : decode cX1_erase 126 = .ok (.iinc 5 1, 3) := by decide +kernel
theorem dX1_erase_129 : decode cX1_erase 129 = .ok (.goto (-69), 3) := by decide +kernel
theorem dX1_erase_132 : decode cX1_erase 132 = .ok (.aload_n 0, 1) := by decide +kernel
theorem dX1_erase_133 : decode cX1_erase 133 = .ok (.iload_n 3, 1) := by decide +kernel
theorem dX1_erase_134 : decode cX1_erase 134 = .ok (.putfield 48, 3) := by decide +kernel
theorem dX1_erase_137 : decode cX1_erase 137 = .ok (.iconst 0, 1) := by decide +kernel
theorem dX1_erase_138 : decode cX1_erase 138 = .ok (.istore 5, 2) := by decide +kernel
theorem dX1_erase_140 : decode cX1_erase 140 = .ok (.iload 5, 2) := by decide +kernel
theorem dX1_erase_142 : decode cX1_erase 142 = .ok (.sipush 600, 3) := by decide +kernel
theorem dX1_erase_145 : decode cX1_erase 145 = .ok (.if_icmp .ge 37, 3) := by decide +kernel
theorem dX1_erase_148 : decode cX1_erase 148 = .ok (.aload_n 0, 1) := by decide +kernel
theorem dX1_erase_149 : decode cX1_erase 149 = .ok (.getfield 42, 3) := by decide +kernel
theorem dX1_erase_152 : decode cX1_erase 152 = .ok (.iload 5, 2) := by decide +kernel
theorem dX1_erase_154 : decode cX1_erase 154 = .ok (.baload, 1) := by decide +kernel
theorem dX1_erase_155 : decode cX1_erase 155 = .ok (.ifCond .eq 21, 3) := by decide +kernel
theorem dX1_erase_158 : decode cX1_erase 158 = .ok (.aload_n 0, 1) := by decide +kernel
theorem dX1_erase_159 : decode cX1_erase 159 = .ok (.getfield 7, 3) := by decide +kernel
theorem dX1_erase_162 : decode cX1_erase 162 = .ok (.iload 5, 2) := by decide +kernel
theorem dX1_erase_164 : decode cX1_erase 164 = .ok (.iconst 0, 1) := by decide +kernel
theorem dX1_erase_165 : decode cX1_erase 165 = .ok (.bastore, 1) := by decide +kernel
theorem dX1_erase_166 : decode cX1_erase 166 = .ok (.aload_n 0, 1) := by decide +kernel
theorem dX1_erase_167 : decode cX1_erase 167 = .ok (.dup, 1) := by decide +kernel
theorem dX1_erase_168 : decode cX1_erase 168 = .ok (.getfield 68, 3) := by decide +kernel
theorem dX1_erase_171 : decode cX1_erase 171 = .ok (.iconst 1, 1) := by decide +kernel
theorem dX1_erase_172 : decode cX1_erase 172 = .ok (.isub, 1) := by decide +kernel
theorem dX1_erase_173 : decode cX1_erase 173 = .ok (.putfield 68, 3) := by decide +kernel
theorem dX1_erase_176 : decode cX1_erase 176 = .ok (.iinc 5 1, 3) := by decide +kernel
theorem dX1_erase_179 : decode cX1_erase 179 = .ok (.goto (-39), 3) := by decide +kernel
theorem dX1_erase_182 : decode cX1_erase 182 = .ok (.return_, 1) := by decide +kernel
theorem dX1_done_0 : decode cX1_done 0 = .ok (.aload_n 0, 1) := by decide +kernel
theorem dX1_done_1 : decode cX1_done 1 = .ok (.iconst 0, 1) := by decide +kernel
theorem dX1_done_2 : decode cX1_done 2 = .ok (.putfield 45, 3) := by decide +kernel
theorem dX1_done_5 : decode cX1_done 5 = .ok (.aload_n 0, 1) := by decide +kernel
theorem dX1_done_6 : decode cX1_done 6 = .ok (.getfield 26, 3) := by decide +kernel
theorem dX1_done_9 : decode cX1_done 9 = .ok (.iconst 1, 1) := by decide +kernel
theorem dX1_done_10 : decode cX1_done 10 = .ok (.if_icmp .eq 10, 3) := by decide +kernel
theorem dX1_done_13 : decode cX1_done 13 = .ok (.aload_n 0, 1) := by decide +kernel
theorem dX1_done_14 : decode cX1_done 14 = .ok (.invokevirtual 75, 3) := by decide +kernel
theorem dX1_done_17 : decode cX1_done 17 = .ok (.ifCond .eq 5, 3) := by decide +kernel
theorem dX1_done_20 : decode cX1_done 20 = .ok (.iconst (-1), 1) := by decide +kernel
theorem dX1_done_21 : decode cX1_done 21 = .ok (.ireturn, 1) := by decide +kernel
theorem dX1_done_22 : decode cX1_done 22 = .ok (.aload_n 0, 1) := by decide +kernel
theorem dX1_done_23 : decode cX1_done 23 = .ok (.getfield 30, 3) := by decide +kernel
theorem dX1_done_26 : decode cX1_done 26 = .ok (.aload_n 0, 1) := by decide +kernel
theorem dX1_done_27 : decode cX1_done 27 = .ok (.invokevirtual 58, 3) := by decide +kernel
theorem dX1_done_30 : decode cX1_done 30 = .ok (.iaload, 1) := by decide +kernel
theorem dX1_done_31 : decode cX1_done 31 = .ok (.istore_n 1, 1) := by decide +kernel
theorem dX1_done_32 : decode cX1_done 32 = .ok (.aload_n 0, 1) := by decide +kernel
theorem dX1_done_33 : decode cX1_done 33 = .ok (.getfield 33, 3) := by decide +kernel
theorem dX1_done_36 : decode cX1_done 36 = .ok (.aload_n 0, 1) := by decide +kernel
theorem dX1_done_37 : decode cX1_done 37 = .ok (.invokevirtual 58, 3) := by decide +kernel
theorem dX1_done_40 : decode cX1_done 40 = .ok (.baload, 1) := by decide +kernel
theorem dX1_done_41 : decode cX1_done 41 = .ok (.ifCond .ne 15, 3) := by decide +kernel
theorem dX1_done_44 : decode cX1_done 44 = .ok (.aload_n 0, 1) := by decide +kernel
theorem dX1_done_45 : decode cX1_done 45 = .ok (.aload_n 0, 1) := by decide +kernel
theorem dX1_done_46 : decode cX1_done 46 = .ok (.getfield 51, 3) := by decide +kernel
theorem dX1_done_49 : decode cX1_done 49 = .ok (.aload_n 0, 1) := by decide +kernel
theorem dX1_done_50 : decode cX1_done 50 = .ok (.invokevirtual 62, 3) := by decide +kernel
theorem dX1_done_53 : decode cX1_done 53 = .ok (.invokevirtual 102, 3) := by decide +kernel
theorem dX1_done_56 : decode cX1_done 56 = .ok (.aload_n 0, 1) := by decide +kernel
theorem dX1_done_57 : decode cX1_done 57 = .ok (.aload_n 0, 1) := by decide +kernel
theorem dX1_done_58 : decode cX1_done 58 = .ok (.iconst 2, 1) := by decide +kernel
theorem dX1_done_59 : decode cX1_done 59 = .ok (.iload_n 1, 1) := by decide +kernel
theorem dX1_done_60 : decode cX1_done 60 = .ok (.imul, 1) := by decide +kernel
theorem dX1_done_61 : decode cX1_done 61 = .ok (.iconst 1, 1) := by decide +kernel
theorem dX1_done_62 : decode cX1_done 62 = .ok (.iadd, 1) := by decide +kernel
theorem dX1_done_63 : decode cX1_done 63 = .ok (.invokevirtual 54, 3) := by decide +kernel
theorem dX1_done_66 : decode cX1_done 66 = .ok (.iconst 1, 1) := by decide +kernel
theorem dX1_done_67 : decode cX1_done 67 = .ok (.iadd, 1) := by decide +kernel
theorem dX1_done_68 : decode cX1_done 68 = .ok (.putfield 51, 3) := by decide +kernel
theorem dX1_done_71 : decode cX1_done 71 = .ok (.aload_n 0, 1) := by decide +kernel
theorem dX1_done_72 : decode cX1_done 72 = .ok (.dup, 1) := by decide +kernel
theorem dX1_done_73 : decode cX1_done 73 = .ok (.getfield 26, 3) := by decide +kernel
theorem dX1_done_76 : decode cX1_done 76 = .ok (.iconst 1, 1) := by decide +kernel
theorem dX1_done_77 : decode cX1_done 77 = .ok (.isub, 1) := by decide +kernel
theorem dX1_done_78 : decode cX1_done 78 = .ok (.putfield 26, 3) := by decide +kernel
theorem dX1_done_81 : decode cX1_done 81 = .ok (.iload_n 1, 1) := by decide +kernel
theorem dX1_done_82 : decode cX1_done 82 = .ok (.ireturn, 1) := by decide +kernel
theorem dX1_toEnd_0 : decode cX1_toEnd 0 = .ok (.aload_n 0, 1) := by decide +kernel
theorem dX1_toEnd_1 : decode cX1_toEnd 1 = .ok (.iconst 0, 1) := by decide +kernel
theorem dX1_toEnd_2 : decode cX1_toEnd 2 = .ok (.putfield 45, 3) := by decide +kernel
theorem dX1_toEnd_5 : decode cX1_toEnd 5 = .ok (.aload_n 0, 1) := by decide +kernel
theorem dX1_toEnd_6 : decode cX1_toEnd 6 = .ok (.aload_n 0, 1) := by decide +kernel
theorem dX1_toEnd_7 : decode cX1_toEnd 7 = .ok (.invokevirtual 106, 3) := by decide +kernel
theorem dX1_toEnd_10 : decode cX1_toEnd 10 = .ok (.ifCond .eq 10, 3) := by decide +kernel
theorem dX1_toEnd_13 : decode cX1_toEnd 13 = .ok (.aload_n 0, 1) := by decide +kernel
theorem dX1_toEnd_14 : decode cX1_toEnd 14 = .ok (.getfield 48, 3) := by decide +kernel
theorem dX1_toEnd_17 : decode cX1_toEnd 17 = .ok (.goto 7, 3) := by decide +kernel
theorem dX1_toEnd_20 : decode cX1_toEnd 20 = .ok (.aload_n 0, 1) := by decide +kernel
theorem dX1_toEnd_21 : decode cX1_toEnd 21 = .ok (.getfield 51, 3) := by decide +kernel
theorem dX1_toEnd_24 : decode cX1_toEnd 24 = .ok (.putfield 51, 3) := by decide +kernel
theorem dX1_toEnd_27 : decode cX1_toEnd 27 = .ok (.aload_n 0, 1) := by decide +kernel
theorem dX1_toEnd_28 : decode cX1_toEnd 28 = .ok (.invokevirtual 106, 3) := by decide +kernel
theorem dX1_toEnd_31 : decode cX1_toEnd 31 = .ok (.ireturn, 1) := by decide +kernel
theorem dX1_isFree_0 : decode cX1_isFree 0 = .ok (.aload_n 0, 1) := by decide +kernel
theorem dX1_isFree_1 : decode cX1_isFree 1 = .ok (.getfield 26, 3) := by decide +kernel
theorem dX1_isFree_4 : decode cX1_isFree 4 = .ok (.iconst 1, 1) := by decide +kernel
theorem dX1_isFree_5 : decode cX1_isFree 5 = .ok (.if_icmp .ne 14, 3) := by decide +kernel
theorem dX1_isFree_8 : decode cX1_isFree 8 = .ok (.aload_n 0, 1) := by decide +kernel
theorem dX1_isFree_9 : decode cX1_isFree 9 = .ok (.getfield 65, 3) := by decide +kernel
theorem dX1_isFree_12 : decode cX1_isFree 12 = .ok (.ifCond .ne 7, 3) := by decide +kernel
theorem dX1_isFree_15 : decode cX1_isFree 15 = .ok (.iconst 1, 1) := by decide +kernel
theorem dX1_isFree_16 : decode cX1_isFree 16 = .ok (.goto 4, 3) := by decide +kernel
theorem dX1_isFree_19 : decode cX1_isFree 19 = .ok (.iconst 0, 1) := by decide +kernel
theorem dX1_isFree_20 : decode cX1_isFree 20 = .ok (.ireturn, 1) := by decide +kernel
theorem dX1_toBegin_0 : decode cX1_toBegin 0 = .ok (.aload_n 0, 1) := by decide +kernel
theorem dX1_toBegin_1 : decode cX1_toBegin 1 = .ok (.iconst 0, 1) := by decide +kernel
theorem dX1_toBegin_2 : decode cX1_toBegin 2 = .ok (.putfield 45, 3) := by decide +kernel
theorem dX1_toBegin_5 : decode cX1_toBegin 5 = .ok (.aload_n 0, 1) := by decide +kernel
theorem dX1_toBegin_6 : decode cX1_toBegin 6 = .ok (.aload_n 0, 1) := by decide +kernel
theorem dX1_toBegin_7 : decode cX1_toBegin 7 = .ok (.invokevirtual 106, 3) := by decide +kernel
theorem dX1_toBegin_10 : decode cX1_toBegin 10 = .ok (.ifCond .eq 7, 3) := by decide +kernel
theorem dX1_toBegin_13 : decode cX1_toBegin 13 = .ok (.iconst 0, 1) := by decide +kernel
theorem dX1_toBegin_14 : decode cX1_toBegin 14 = .ok (.goto 7, 3) := by decide +kernel
theorem dX1_toBegin_17 : decode cX1_toBegin 17 = .ok (.aload_n 0, 1) := by decide +kernel
theorem dX1_toBegin_18 : decode cX1_toBegin 18 = .ok (.getfield 51, 3) := by decide +kernel
theorem dX1_toBegin_21 : decode cX1_toBegin 21 = .ok (.putfield 51, 3) := by decide +kernel
theorem dX1_toBegin_24 : decode cX1_toBegin 24 = .ok (.aload_n 0, 1) := by decide +kernel
theorem dX1_toBegin_25 : decode cX1_toBegin 25 = .ok (.invokevirtual 106, 3) := by decide +kernel
theorem dX1_toBegin_28 : decode cX1_toBegin 28 = .ok (.ireturn, 1) := by decide +kernel
theorem dX1_wipe_0 : decode cX1_wipe 0 = .ok (.aload_n 0, 1) := by decide +kernel
theorem dX1_wipe_1 : decode cX1_wipe 1 = .ok (.iconst 0, 1) := by decide +kernel
theorem dX1_wipe_2 : decode cX1_wipe 2 = .ok (.putfield 45, 3) := by decide +kernel
theorem dX1_wipe_5 : decode cX1_wipe 5 = .ok (.iconst 0, 1) := by decide +kernel
theorem dX1_wipe_6 : decode cX1_wipe 6 = .ok (.istore_n 1, 1) := by decide +kernel
theorem dX1_wipe_7 : decode cX1_wipe 7 = .ok (.iload_n 1, 1) := by decide +kernel
theorem dX1_wipe_8 : decode cX1_wipe 8 = .ok (.sipush 600, 3) := by decide +kernel
theorem dX1_wipe_11 : decode cX1_wipe 11 = .ok (.if_icmp .ge 16, 3) := by decide +kernel
theorem dX1_wipe_14 : decode cX1_wipe 14 = .ok (.aload_n 0, 1) := by decide +kernel
theorem dX1_wipe_15 : decode cX1_wipe 15 = .ok (.getfield 7, 3) := by decide +kernel
theorem dX1_wipe_18 : decode cX1_wipe 18 = .ok (.iload_n 1, 1) := by decide +kernel
theorem dX1_wipe_19 : decode cX1_wipe 19 = .ok (.iconst 0, 1) := by decide +kernel
theorem dX1_wipe_20 : decode cX1_wipe 20 = .ok (.bastore, 1) := by decide +kernel
theorem dX1_wipe_21 : decode cX1_wipe 21 = .ok (.iinc 1 1, 3) := by decide +kernel
theorem dX1_wipe_24 : decode cX1_wipe 24 = .ok (.goto (-17), 3) := by decide +kernel
theorem dX1_wipe_27 : decode cX1_wipe 27 = .ok (.aload_n 0, 1) := by decide +kernel
theorem dX1_wipe_28 : decode cX1_wipe 28 = .ok (.iconst 0, 1) := by decide +kernel
theorem dX1_wipe_29 : decode cX1_wipe 29 = .ok (.putfield 68, 3) := by decide +kernel
theorem dX1_wipe_32 : decode cX1_wipe 32 = .ok (.aload_n 0, 1) := by decide +kernel
theorem dX1_wipe_33 : decode cX1_wipe 33 = .ok (.iconst 0, 1) := by decide +kernel
theorem dX1_wipe_34 : decode cX1_wipe 34 = .ok (.putfield 79, 3) := by decide +kernel
theorem dX1_wipe_37 : decode cX1_wipe 37 = .ok (.aload_n 0, 1) := by decide +kernel
theorem dX1_wipe_38 : decode cX1_wipe 38 = .ok (.iconst 0, 1) := by decide +kernel
theorem dX1_wipe_39 : decode cX1_wipe 39 = .ok (.putfield 48, 3) := by decide +kernel
theorem dX1_wipe_42 : decode cX1_wipe 42 = .ok (.aload_n 0, 1) := by decide +kernel
theorem dX1_wipe_43 : decode cX1_wipe 43 = .ok (.iconst 0, 1) := by decide +kernel
theorem dX1_wipe_44 : decode cX1_wipe 44 = .ok (.putfield 51, 3) := by decide +kernel
theorem dX1_wipe_47 : decode cX1_wipe 47 = .ok (.aload_n 0, 1) := by decide +kernel
theorem dX1_wipe_48 : decode cX1_wipe 48 = .ok (.iconst 1, 1) := by decide +kernel
theorem dX1_wipe_49 : decode cX1_wipe 49 = .ok (.putfield 26, 3) := by decide +kernel
theorem dX1_wipe_52 : decode cX1_wipe 52 = .ok (.aload_n 0, 1) := by decide +kernel
theorem dX1_wipe_53 : decode cX1_wipe 53 = .ok (.iconst 0, 1) := by decide +kernel
theorem dX1_wipe_54 : decode cX1_wipe 54 = .ok (.putfield 65, 3) := by decide +kernel
theorem dX1_wipe_57 : decode cX1_wipe 57 = .ok (.return_, 1) := by decide +kernel
theorem dX1_of_0 : decode cX1_of 0 = .ok (.aload_n 0, 1) := by decide +kernel
theorem dX1_of_1 : decode cX1_of 1 = .ok (.aload_n 0, 1) := by decide +kernel
theorem dX1_of_2 : decode cX1_of 2 = .ok (.iload_n 1, 1) := by decide +kernel
theorem dX1_of_3 : decode cX1_of 3 = .ok (.invokevirtual 88, 3) := by decide +kernel
theorem dX1_of_6 : decode cX1_of 6 = .ok (.ifCond .eq 17, 3) := by decide +kernel
theorem dX1_of_9 : decode cX1_of 9 = .ok (.iload_n 2, 1) := by decide +kernel
theorem dX1_of_10 : decode cX1_of 10 = .ok (.ifCond .lt 13, 3) := by decide +kernel
theorem dX1_of_13 : decode cX1_of 13 = .ok (.iload_n 2, 1) := by decide +kernel
theorem dX1_of_14 : decode cX1_of 14 = .ok (.bipush 6, 2) := by decide +kernel
theorem dX1_of_16 : decode cX1_of 16 = .ok (.if_icmp .gt 7, 3) := by decide +kernel
theorem dX1_of_19 : decode cX1_of 19 = .ok (.iconst 0, 1) := by decide +kernel
theorem dX1_of_20 : decode cX1_of 20 = .ok (.goto 4, 3) := by decide +kernel
theorem dX1_of_23 : decode cX1_of 23 = .ok (.iconst 1, 1) := by decide +kernel
theorem dX1_of_24 : decode cX1_of 24 = .ok (.putfield 45, 3) := by decide +kernel
theorem dX1_of_27 : decode cX1_of 27 = .ok (.aload_n 0, 1) := by decide +kernel
theorem dX1_of_28 : decode cX1_of 28 = .ok (.getfield 45, 3) := by decide +kernel
theorem dX1_of_31 : decode cX1_of 31 = .ok (.ifCond .le 5, 3) := by decide +kernel
theorem dX1_of_34 : decode cX1_of 34 = .ok (.iconst 0, 1) := by decide +kernel
theorem dX1_of_35 : decode cX1_of 35 = .ok (.ireturn, 1) := by decide +kernel
theorem dX1_of_36 : decode cX1_of 36 = .ok (.iload_n 2, 1) := by decide +kernel
theorem dX1_of_37 : decode cX1_of 37 = .ok (.tableswitch 104 0 5 #[39, 46, 53, 80, 88, 98], 39) := by decide +kernel
theorem dX1_of_76 : decode cX1_of 76 = .ok (.aload_n 0, 1) := by decide +kernel
theorem dX1_of_77 : decode cX1_of 77 = .ok (.getfield 13, 3) := by decide +kernel
theorem dX1_of_80 : decode cX1_of 80 = .ok (.iload_n 1, 1) := by decide +kernel
theorem dX1_of_81 : decode cX1_of 81 = .ok (.iaload, 1) := by decide +kernel
theorem dX1_of_82 : decode cX1_of 82 = .ok (.ireturn, 1) := by decide +kernel
theorem dX1_of_83 : decode cX1_of 83 = .ok (.aload_n 0, 1) := by decide +kernel
theorem dX1_of_84 : decode cX1_of 84 = .ok (.getfield 17, 3) := by decide +kernel
theorem dX1_of_87 : decode cX1_of 87 = .ok (.iload_n 1, 1) := by decide +kernel
theorem dX1_of_88 : decode cX1_of 88 = .ok (.iaload, 1) := by decide +kernel
theorem dX1_of_89 : decode cX1_of 89 = .ok (.ireturn, 1) := by decide +kernel
theorem dX1_of_90 : decode cX1_of 90 = .ok (.aload_n 0, 1) := by decide +kernel
theorem dX1_of_91 : decode cX1_of 91 = .ok (.iload_n 1, 1) := by decide +kernel
theorem dX1_of_92 : decode cX1_of 92 = .ok (.invokevirtual 92, 3) := by decide +kernel
theorem dX1_of_95 : decode cX1_of 95 = .ok (.ifCond .ne 7, 3) := by decide +kernel
theorem dX1_of_98 : decode cX1_of 98 = .ok (.iconst 0, 1) := by decide +kernel
theorem dX1_of_99 : decode cX1_of 99 = .ok (.goto 17, 3) := by decide +kernel
theorem dX1_of_102 : decode cX1_of 102 = .ok (.aload_n 0, 1) := by decide +kernel
theorem dX1_of_103 : decode cX1_of 103 = .ok (.getfield 20, 3) := by decide +kernel
theorem dX1_of_106 : decode cX1_of 106 = .ok (.iload_n 1, 1) := by decide +kernel
theorem dX1_of_107 : decode cX1_of 107 = .ok (.baload, 1) := by decide +kernel
theorem dX1_of_108 : decode cX1_of 108 = .ok (.ifCond .eq 7, 3) := by decide +kernel
theorem dX1_of_111 : decode cX1_of 111 = .ok (.iconst 2, 1) := by decide +kernel
theorem dX1_of_112 : decode cX1_of 112 = .ok (.goto 4, 3) := by decide +kernel
theorem dX1_of_115 : decode cX1_of 115 = .ok (.iconst 1, 1) := by decide +kernel
theorem dX1_of_116 : decode cX1_of 116 = .ok (.ireturn, 1) := by decide +kernel
theorem dX1_of_117 : decode cX1_of 117 = .ok (.aload_n 0, 1) := by decide +kernel
theorem dX1_of_118 : decode cX1_of 118 = .ok (.iconst 2, 1) := by decide +kernel
theorem dX1_of_119 : decode cX1_of 119 = .ok (.iload_n 1, 1) := by decide +kernel
theorem dX1_of_120 : decode cX1_of 120 = .ok (.imul, 1) := by decide +kernel
theorem dX1_of_121 : decode cX1_of 121 = .ok (.invokevirtual 54, 3) := by decide +kernel
theorem dX1_of_124 : decode cX1_of 124 = .ok (.ireturn, 1) := by decide +kernel
theorem dX1_of_125 : decode cX1_of 125 = .ok (.aload_n 0, 1) := by decide +kernel
theorem dX1_of_126 : decode cX1_of 126 = .ok (.iconst 2, 1) := by decide +kernel
theorem dX1_of_127 : decode cX1_of 127 = .ok (.iload_n 1, 1) := by decide +kernel
theorem dX1_of_128 : decode cX1_of 128 = .ok (.imul, 1) := by decide +kernel
theorem dX1_of_129 : decode cX1_of 129 = .ok (.iconst 1, 1) := by decide +kernel
theorem dX1_of_130 : decode cX1_of 130 = .ok (.iadd, 1) := by decide +kernel
theorem dX1_of_131 : decode cX1_of 131 = .ok (.invokevirtual 54, 3) := by decide +kernel
theorem dX1_of_134 : decode cX1_of 134 = .ok (.ireturn, 1) := by decide +kernel
theorem dX1_of_135 : decode cX1_of 135 = .ok (.aload_n 0, 1) := by decide +kernel
theorem dX1_of_136 : decode cX1_of 136 = .ok (.iload_n 1, 1) := by decide +kernel
theorem dX1_of_137 : decode cX1_of 137 = .ok (.invokevirtual 112, 3) := by decide +kernel
theorem dX1_of_140 : decode cX1_of 140 = .ok (.ireturn, 1) := by decide +kernel
theorem dX1_of_141 : decode cX1_of 141 = .ok (.aload_n 0, 1) := by decide +kernel
theorem dX1_of_142 : decode cX1_of 142 = .ok (.iload_n 1, 1) := by decide +kernel
theorem dX1_of_143 : decode cX1_of 143 = .ok (.invokevirtual 115, 3) := by decide +kernel
theorem dX1_of_146 : decode cX1_of 146 = .ok (.ireturn, 1) := by decide +kernel
theorem dX1_around_0 : decode cX1_around 0 = .ok (.aload_n 0, 1) := by decide +kernel
theorem dX1_around_1 : decode cX1_around 1 = .ok (.iconst 2, 1) := by decide +kernel
theorem dX1_around_2 : decode cX1_around 2 = .ok (.iload_n 1, 1) := by decide +kernel
theorem dX1_around_3 : decode cX1_around 3 = .ok (.imul, 1) := by decide +kernel
theorem dX1_around_4 : decode cX1_around 4 = .ok (.invokevirtual 54, 3) := by decide +kernel
theorem dX1_around_7 : decode cX1_around 7 = .ok (.istore_n 2, 1) := by decide +kernel
theorem dX1_around_8 : decode cX1_around 8 = .ok (.iconst (-1), 1) := by decide +kernel
theorem dX1_around_9 : decode cX1_around 9 = .ok (.istore_n 3, 1) := by decide +kernel
theorem dX1_around_10 : decode cX1_around 10 = .ok (.iconst 0, 1) := by decide +kernel
theorem dX1_around_11 : decode cX1_around 11 = .ok (.istore 4, 2) := by decide +kernel
theorem dX1_around_13 : decode cX1_around 13 = .ok (.iload 4, 2) := by decide +kernel
theorem dX1_around_15 : decode cX1_around 15 = .ok (.iload_n 2, 1) := by decide +kernel
theorem dX1_around_16 : decode cX1_around 16 = .ok (.if_icmp .ge 52, 3) := by decide +kernel
theorem dX1_around_19 : decode cX1_around 19 = .ok (.aload_n 0, 1) := by decide +kernel
theorem dX1_around_20 : decode cX1_around 20 = .ok (.getfield 23, 3) := by decide +kernel
theorem dX1_around_23 : decode cX1_around 23 = .ok (.iload 4, 2) := by decide +kernel
theorem dX1_around_25 : decode cX1_around 25 = .ok (.iaload, 1) := by decide +kernel
theorem dX1_around_26 : decode cX1_around 26 = .ok (.iconst 2, 1) := by decide +kernel
theorem dX1_around_27 : decode cX1_around 27 = .ok (.irem, 1) := by decide +kernel
theorem dX1_around_28 : decode cX1_around 28 = .ok (.ifCond .ne 32, 3) := by decide +kernel
theorem dX1_around_31 : decode cX1_around 31 = .ok (.aload_n 0, 1) := by decide +kernel
theorem dX1_around_32 : decode cX1_around 32 = .ok (.aload_n 0, 1) := by decide +kernel
theorem dX1_around_33 : decode cX1_around 33 = .ok (.getfield 23, 3) := by decide +kernel
theorem dX1_around_36 : decode cX1_around 36 = .ok (.iload 4, 2) := by decide +kernel
theorem dX1_around_38 : decode cX1_around 38 = .ok (.iaload, 1) := by decide +kernel
theorem dX1_around_39 : decode cX1_around 39 = .ok (.iconst 2, 1) := by decide +kernel
theorem dX1_around_40 : decode cX1_around 40 = .ok (.idiv, 1) := by decide +kernel
theorem dX1_around_41 : decode cX1_around 41 = .ok (.invokevirtual 109, 3) := by decide +kernel
theorem dX1_around_44 : decode cX1_around 44 = .ok (.iload_n 2, 1) := by decide +kernel
theorem dX1_around_45 : decode cX1_around 45 = .ok (.if_icmp .le 15, 3) := by decide +kernel
theorem dX1_around_48 : decode cX1_around 48 = .ok (.aload_n 0, 1) := by decide +kernel
theorem dX1_around_49 : decode cX1_around 49 = .ok (.getfield 23, 3) := by decide +kernel
theorem dX1_around_52 : decode cX1_around 52 = .ok (.iload 4, 2) := by decide +kernel
theorem dX1_around_54 : decode cX1_around 54 = .ok (.iaload, 1) := by decide +kernel
theorem dX1_around_55 : decode cX1_around 55 = .ok (.iconst 2, 1) := by decide +kernel
theorem dX1_around_56 : decode cX1_around 56 = .ok (.idiv, 1) := by decide +kernel
theorem dX1_around_57 : decode cX1_around 57 = .ok (.goto 4, 3) := by decide +kernel
theorem dX1_around_60 : decode cX1_around 60 = .ok (.iload_n 3, 1) := by decide +kernel
theorem dX1_around_61 : decode cX1_around 61 = .ok (.istore_n 3, 1) := by decide +kernel
theorem dX1_around_62 : decode cX1_around 62 = .ok (.iinc 4 1, 3) := by decide +kernel
theorem dX1_around_65 : decode cX1_around 65 = .ok (.goto (-52), 3) := by decide +kernel
theorem dX1_around_68 : decode cX1_around 68 = .ok (.iload_n 3, 1) := by decide +kernel
theorem dX1_around_69 : decode cX1_around 69 = .ok (.ireturn, 1) := by decide +kernel
theorem dX1_endOf_0 : decode cX1_endOf 0 = .ok (.aload_n 0, 1) := by decide +kernel
theorem dX1_endOf_1 : decode cX1_endOf 1 = .ok (.iconst 2, 1) := by decide +kernel
theorem dX1_endOf_2 : decode cX1_endOf 2 = .ok (.iload_n 1, 1) := by decide +kernel
theorem dX1_endOf_3 : decode cX1_endOf 3 = .ok (.imul, 1) := by decide +kernel
theorem dX1_endOf_4 : decode cX1_endOf 4 = .ok (.iconst 1, 1) := by decide +kernel
theorem dX1_endOf_5 : decode cX1_endOf 5 = .ok (.iadd, 1) := by decide +kernel
theorem dX1_endOf_6 : decode cX1_endOf 6 = .ok (.invokevirtual 54, 3) := by decide +kernel
theorem dX1_endOf_9 : decode cX1_endOf 9 = .ok (.istore_n 2, 1) := by decide +kernel
theorem dX1_endOf_10 : decode cX1_endOf 10 = .ok (.iload_n 2, 1) := by decide +kernel
theorem dX1_endOf_11 : decode cX1_endOf 11 = .ok (.ifCond .ge 10, 3) := by decide +kernel
theorem dX1_endOf_14 : decode cX1_endOf 14 = .ok (.aload_n 0, 1) := by decide +kernel
theorem dX1_endOf_15 : decode cX1_endOf 15 = .ok (.getfield 48, 3) := by decide +kernel
theorem dX1_endOf_18 : decode cX1_endOf 18 = .ok (.goto 4, 3) := by decide +kernel
theorem dX1_endOf_21 : decode cX1_endOf 21 = .ok (.iload_n 2, 1) := by decide +kernel
theorem dX1_endOf_22 : decode cX1_endOf 22 = .ok (.ireturn, 1) := by decide +kernel
theorem dX1_sumOf_0 : decode cX1_sumOf 0 = .ok (.aload_n 0, 1) := by decide +kernel
theorem dX1_sumOf_1 : decode cX1_sumOf 1 = .ok (.getfield 17, 3) := by decide +kernel
theorem dX1_sumOf_4 : decode cX1_sumOf 4 = .ok (.iload_n 1, 1) := by decide +kernel
theorem dX1_sumOf_5 : decode cX1_sumOf 5 = .ok (.iaload, 1) := by decide +kernel
theorem dX1_sumOf_6 : decode cX1_sumOf 6 = .ok (.istore_n 2, 1) := by decide +kernel
theorem dX1_sumOf_7 : decode cX1_sumOf 7 = .ok (.aload_n 0, 1) := by decide +kernel
theorem dX1_sumOf_8 : decode cX1_sumOf 8 = .ok (.iconst 2, 1) := by decide +kernel
theorem dX1_sumOf_9 : decode cX1_sumOf 9 = .ok (.iload_n 1, 1) := by decide +kernel
theorem dX1_sumOf_10 : decode cX1_sumOf 10 = .ok (.imul, 1) := by decide +kernel
theorem dX1_sumOf_11 : decode cX1_sumOf 11 = .ok (.invokevirtual 54, 3) := by decide +kernel
theorem dX1_sumOf_14 : decode cX1_sumOf 14 = .ok (.iconst 1, 1) := by decide +kernel
theorem dX1_sumOf_15 : decode cX1_sumOf 15 = .ok (.iadd, 1) := by decide +kernel
theorem dX1_sumOf_16 : decode cX1_sumOf 16 = .ok (.istore_n 3, 1) := by decide +kernel
theorem dX1_sumOf_17 : decode cX1_sumOf 17 = .ok (.iload_n 3, 1) := by decide +kernel
theorem dX1_sumOf_18 : decode cX1_sumOf 18 = .ok (.aload_n 0, 1) := by decide +kernel
theorem dX1_sumOf_19 : decode cX1_sumOf 19 = .ok (.iload_n 1, 1) := by decide +kernel
theorem dX1_sumOf_20 : decode cX1_sumOf 20 = .ok (.invokevirtual 109, 3) := by decide +kernel
theorem dX1_sumOf_23 : decode cX1_sumOf 23 = .ok (.if_icmp .ge 40, 3) := by decide +kernel
theorem dX1_sumOf_26 : decode cX1_sumOf 26 = .ok (.iload_n 2, 1) := by decide +kernel
theorem dX1_sumOf_27 : decode cX1_sumOf 27 = .ok (.aload_n 0, 1) := by decide +kernel
theorem dX1_sumOf_28 : decode cX1_sumOf 28 = .ok (.getfield 23, 3) := by decide +kernel
theorem dX1_sumOf_31 : decode cX1_sumOf 31 = .ok (.iload_n 3, 1) := by decide +kernel
theorem dX1_sumOf_32 : decode cX1_sumOf 32 = .ok (.iaload, 1) := by decide +kernel
theorem dX1_sumOf_33 : decode cX1_sumOf 33 = .ok (.iconst 2, 1) := by decide +kernel
theorem dX1_sumOf_34 : decode cX1_sumOf 34 = .ok (.irem, 1) := by decide +kernel
theorem dX1_sumOf_35 : decode cX1_sumOf 35 = .ok (.ifCond .ne 19, 3) := by decide +kernel
theorem dX1_sumOf_38 : decode cX1_sumOf 38 = .ok (.aload_n 0, 1) := by decide +kernel
theorem dX1_sumOf_39 : decode cX1_sumOf 39 = .ok (.getfield 17, 3) := by decide +kernel
theorem dX1_sumOf_42 : decode cX1_sumOf 42 = .ok (.aload_n 0, 1) := by decide +kernel
theorem dX1_sumOf_43 : decode cX1_sumOf 43 = .ok (.getfield 23, 3) := by decide +kernel
theorem dX1_sumOf_46 : decode cX1_sumOf 46 = .ok (.iload_n 3, 1) := by decide +kernel
theorem dX1_sumOf_47 : decode cX1_sumOf 47 = .ok (.iaload, 1) := by decide +kernel
theorem dX1_sumOf_48 : decode cX1_sumOf 48 = .ok (.iconst 2, 1) := by decide +kernel
theorem dX1_sumOf_49 : decode cX1_sumOf 49 = .ok (.idiv, 1) := by decide +kernel
theorem dX1_sumOf_50 : decode cX1_sumOf 50 = .ok (.iaload, 1) := by decide +kernel
theorem dX1_sumOf_51 : decode cX1_sumOf 51 = .ok (.goto 4, 3) := by decide +kernel
theorem dX1_sumOf_54 : decode cX1_sumOf 54 = .ok (.iconst 0, 1) := by decide +kernel
theorem dX1_sumOf_55 : decode cX1_sumOf 55 = .ok (.iadd, 1) := by decide +kernel
theorem dX1_sumOf_56 : decode cX1_sumOf 56 = .ok (.istore_n 2, 1) := by decide +kernel
theorem dX1_sumOf_57 : decode cX1_sumOf 57 = .ok (.iinc 3 1, 3) := by decide +kernel
theorem dX1_sumOf_60 : decode cX1_sumOf 60 = .ok (.goto (-43), 3) := by decide +kernel
theorem dX1_sumOf_63 : decode cX1_sumOf 63 = .ok (.iload_n 2, 1) := by decide +kernel
theorem dX1_sumOf_64 : decode cX1_sumOf 64 = .ok (.ireturn, 1) := by decide +kernel
theorem dX1_event_0 : decode cX1_event 0 = .ok (.aload_n 0, 1) := by decide +kernel
theorem dX1_event_1 : decode cX1_event 1 = .ok (.iconst 0, 1) := by decide +kernel
theorem dX1_event_2 : decode cX1_event 2 = .ok (.putfield 45, 3) := by decide +kernel
theorem dX1_event_5 : decode cX1_event 5 = .ok (.iload_n 1, 1) := by decide +kernel
theorem dX1_event_6 : decode cX1_event 6 = .ok (.ifCond .lt 11, 3) := by decide +kernel
theorem dX1_event_9 : decode cX1_event 9 = .ok (.iload_n 1, 1) := by decide +kernel
theorem dX1_event_10 : decode cX1_event 10 = .ok (.aload_n 0, 1) := by decide +kernel
theorem dX1_event_11 : decode cX1_event 11 = .ok (.getfield 48, 3) := by decide +kernel
theorem dX1_event_14 : decode cX1_event 14 = .ok (.if_icmp .lt 7, 3) := by decide +kernel
theorem dX1_event_17 : decode cX1_event 17 = .ok (.iconst (-1), 1) := by decide +kernel
theorem dX1_event_18 : decode cX1_event 18 = .ok (.goto 9, 3) := by decide +kernel
theorem dX1_event_21 : decode cX1_event 21 = .ok (.aload_n 0, 1) := by decide +kernel
theorem dX1_event_22 : decode cX1_event 22 = .ok (.getfield 23, 3) := by decide +kernel
theorem dX1_event_25 : decode cX1_event 25 = .ok (.iload_n 1, 1) := by decide +kernel
theorem dX1_event_26 : decode cX1_event 26 = .ok (.iaload, 1) := by decide +kernel
theorem dX1_event_27 : decode cX1_event 27 = .ok (.ireturn, 1) := by decide +kernel
theorem dX1_look_0 : decode cX1_look 0 = .ok (.aload_n 0, 1) := by decide +kernel
theorem dX1_look_1 : decode cX1_look 1 = .ok (.iconst 0, 1) := by decide +kernel
theorem dX1_look_2 : decode cX1_look 2 = .ok (.putfield 45, 3) := by decide +kernel
theorem dX1_look_5 : decode cX1_look 5 = .ok (.iconst 0, 1) := by decide +kernel
theorem dX1_look_6 : decode cX1_look 6 = .ok (.istore_n 2, 1) := by decide +kernel
theorem dX1_look_7 : decode cX1_look 7 = .ok (.iconst 0, 1) := by decide +kernel
theorem dX1_look_8 : decode cX1_look 8 = .ok (.istore_n 3, 1) := by decide +kernel
theorem dX1_look_9 : decode cX1_look 9 = .ok (.iload_n 3, 1) := by decide +kernel
theorem dX1_look_10 : decode cX1_look 10 = .ok (.sipush 600, 3) := by decide +kernel
theorem dX1_look_13 : decode cX1_look 13 = .ok (.if_icmp .ge 35, 3) := by decide +kernel
theorem dX1_look_16 : decode cX1_look 16 = .ok (.iload_n 2, 1) := by decide +kernel
theorem dX1_look_17 : decode cX1_look 17 = .ok (.aload_n 0, 1) := by decide +kernel
theorem dX1_look_18 : decode cX1_look 18 = .ok (.getfield 7, 3) := by decide +kernel
theorem dX1_look_21 : decode cX1_look 21 = .ok (.iload_n 3, 1) := by decide +kernel
theorem dX1_look_22 : decode cX1_look 22 = .ok (.baload, 1) := by decide +kernel
theorem dX1_look_23 : decode cX1_look 23 = .ok (.ifCond .eq 16, 3) := by decide +kernel
theorem dX1_look_26 : decode cX1_look 26 = .ok (.aload_n 0, 1) := by decide +kernel
theorem dX1_look_27 : decode cX1_look 27 = .ok (.getfield 20, 3) := by decide +kernel
theorem dX1_look_30 : decode cX1_look 30 = .ok (.iload_n 3, 1) := by decide +kernel
theorem dX1_look_31 : decode cX1_look 31 = .ok (.baload, 1) := by decide +kernel
theorem dX1_look_32 : decode cX1_look 32 = .ok (.ifCond .eq 7, 3) := by decide +kernel
theorem dX1_look_35 : decode cX1_look 35 = .ok (.iconst 1, 1) := by decide +kernel
theorem dX1_look_36 : decode cX1_look 36 = .ok (.goto 4, 3) := by decide +kernel
theorem dX1_look_39 : decode cX1_look 39 = .ok (.iconst 0, 1) := by decide +kernel
theorem dX1_look_40 : decode cX1_look 40 = .ok (.iadd, 1) := by decide +kernel
theorem dX1_look_41 : decode cX1_look 41 = .ok (.istore_n 2, 1) := by decide +kernel
theorem dX1_look_42 : decode cX1_look 42 = .ok (.iinc 3 1, 3) := by decide +kernel
theorem dX1_look_45 : decode cX1_look 45 = .ok (.goto (-36), 3) := by decide +kernel
theorem dX1_look_48 : decode cX1_look 48 = .ok (.iload_n 1, 1) := by decide +kernel
theorem dX1_look_49 : decode cX1_look 49 = .ok (.tableswitch 171 0 9 #[55, 60, 65, 70, 75, 81, 83, 93, 116, 146], 55) := by decide +kernel
theorem dX1_look_104 : decode cX1_look 104 = .ok (.aload_n 0, 1) := by decide +kernel
theorem dX1_look_105 : decode cX1_look 105 = .ok (.getfield 68, 3) := by decide +kernel
theorem dX1_look_108 : decode cX1_look 108 = .ok (.ireturn, 1) := by decide +kernel
theorem dX1_look_109 : decode cX1_look 109 = .ok (.aload_n 0, 1) := by decide +kernel
theorem dX1_look_110 : decode cX1_look 110 = .ok (.getfield 48, 3) := by decide +kernel
theorem dX1_look_113 : decode cX1_look 113 = .ok (.ireturn, 1) := by decide +kernel
theorem dX1_look_114 : decode cX1_look 114 = .ok (.aload_n 0, 1) := by decide +kernel
theorem dX1_look_115 : decode cX1_look 115 = .ok (.getfield 51, 3) := by decide +kernel
theorem dX1_look_118 : decode cX1_look 118 = .ok (.ireturn, 1) := by decide +kernel
theorem dX1_look_119 : decode cX1_look 119 = .ok (.aload_n 0, 1) := by decide +kernel
theorem dX1_look_120 : decode cX1_look 120 = .ok (.getfield 26, 3) := by decide +kernel
theorem dX1_look_123 : decode cX1_look 123 = .ok (.ireturn, 1) := by decide +kernel
theorem dX1_look_124 : decode cX1_look 124 = .ok (.aload_n 0, 1) := by decide +kernel
theorem dX1_look_125 : decode cX1_look 125 = .ok (.invokevirtual 82, 3) := by decide +kernel
theorem dX1_look_128 : decode cX1_look 128 = .ok (.l2i, 1) := by decide +kernel
theorem dX1_look_129 : decode cX1_look 129 = .ok (.ireturn, 1) := by decide +kernel
theorem dX1_look_130 : decode cX1_look 130 = .ok (.iload_n 2, 1) := by decide +kernel
theorem dX1_look_131 : decode cX1_look 131 = .ok (.ireturn, 1) := by decide +kernel
theorem dX1_look_132 : decode cX1_look 132 = .ok (.aload_n 0, 1) := by decide +kernel
theorem dX1_look_133 : decode cX1_look 133 = .ok (.getfield 30, 3) := by decide +kernel
theorem dX1_look_136 : decode cX1_look 136 = .ok (.aload_n 0, 1) := by decide +kernel
theorem dX1_look_137 : decode cX1_look 137 = .ok (.invokevirtual 58, 3) := by decide +kernel
theorem dX1_look_140 : decode cX1_look 140 = .ok (.iaload, 1) := by decide +kernel
theorem dX1_look_141 : decode cX1_look 141 = .ok (.ireturn, 1) := by decide +kernel
theorem dX1_look_142 : decode cX1_look 142 = .ok (.aload_n 0, 1) := by decide +kernel
theorem dX1_look_143 : decode cX1_look 143 = .ok (.invokevirtual 75, 3) := by decide +kernel
theorem dX1_look_146 : decode cX1_look 146 = .ok (.ifCond .eq 17, 3) := by decide +kernel
theorem dX1_look_149 : decode cX1_look 149 = .ok (.aload_n 0, 1) := by decide +kernel
theorem dX1_look_150 : decode cX1_look 150 = .ok (.getfield 36, 3) := by decide +kernel
theorem dX1_look_153 : decode cX1_look 153 = .ok (.aload_n 0, 1) := by decide +kernel
theorem dX1_look_154 : decode cX1_look 154 = .ok (.getfield 65, 3) := by decide +kernel
theorem dX1_look_157 : decode cX1_look 157 = .ok (.iconst 1, 1) := by decide +kernel
theorem dX1_look_158 : decode cX1_look 158 = .ok (.isub, 1) := by decide +kernel
theorem dX1_look_159 : decode cX1_look 159 = .ok (.iaload, 1) := by decide +kernel
theorem dX1_look_160 : decode cX1_look 160 = .ok (.goto 4, 3) := by decide +kernel
theorem dX1_look_163 : decode cX1_look 163 = .ok (.iconst (-1), 1) := by decide +kernel
theorem dX1_look_164 : decode cX1_look 164 = .ok (.ireturn, 1) := by decide +kernel
theorem dX1_look_165 : decode cX1_look 165 = .ok (.aload_n 0, 1) := by decide +kernel
theorem dX1_look_166 : decode cX1_look 166 = .ok (.getfield 26, 3) := by decide +kernel
theorem dX1_look_169 : decode cX1_look 169 = .ok (.iconst 1, 1) := by decide +kernel
theorem dX1_look_170 : decode cX1_look 170 = .ok (.if_icmp .ne 7, 3) := by decide +kernel
theorem dX1_look_173 : decode cX1_look 173 = .ok (.iconst 0, 1) := by decide +kernel
theorem dX1_look_174 : decode cX1_look 174 = .ok (.goto 20, 3) := by decide +kernel
theorem dX1_look_177 : decode cX1_look 177 = .ok (.aload_n 0, 1) := by decide +kernel
theorem dX1_look_178 : decode cX1_look 178 = .ok (.getfield 33, 3) := by decide +kernel
theorem dX1_look_181 : decode cX1_look 181 = .ok (.aload_n 0, 1) := by decide +kernel
theorem dX1_look_182 : decode cX1_look 182 = .ok (.invokevirtual 58, 3) := by decide +kernel
theorem dX1_look_185 : decode cX1_look 185 = .ok (.baload, 1) := by decide +kernel
theorem dX1_look_186 : decode cX1_look 186 = .ok (.ifCond .eq 7, 3) := by decide +kernel
theorem dX1_look_189 : decode cX1_look 189 = .ok (.iconst 2, 1) := by decide +kernel
theorem dX1_look_190 : decode cX1_look 190 = .ok (.goto 4, 3) := by decide +kernel
theorem dX1_look_193 : decode cX1_look 193 = .ok (.iconst 1, 1) := by decide +kernel
theorem dX1_look_194 : decode cX1_look 194 = .ok (.ireturn, 1) := by decide +kernel
theorem dX1_look_195 : decode cX1_look 195 = .ok (.aload_n 0, 1) := by decide +kernel
theorem dX1_look_196 : decode cX1_look 196 = .ok (.invokevirtual 62, 3) := by decide +kernel
theorem dX1_look_199 : decode cX1_look 199 = .ok (.aload_n 0, 1) := by decide +kernel
theorem dX1_look_200 : decode cX1_look 200 = .ok (.getfield 51, 3) := by decide +kernel
theorem dX1_look_203 : decode cX1_look 203 = .ok (.if_icmp .le 15, 3) := by decide +kernel
theorem dX1_look_206 : decode cX1_look 206 = .ok (.aload_n 0, 1) := by decide +kernel
theorem dX1_look_207 : decode cX1_look 207 = .ok (.invokevirtual 62, 3) := by decide +kernel
theorem dX1_look_210 : decode cX1_look 210 = .ok (.aload_n 0, 1) := by decide +kernel
theorem dX1_look_211 : decode cX1_look 211 = .ok (.getfield 51, 3) := by decide +kernel
theorem dX1_look_214 : decode cX1_look 214 = .ok (.isub, 1) := by decide +kernel
theorem dX1_look_215 : decode cX1_look 215 = .ok (.goto 4, 3) := by decide +kernel
theorem dX1_look_218 : decode cX1_look 218 = .ok (.iconst 0, 1) := by decide +kernel
theorem dX1_look_219 : decode cX1_look 219 = .ok (.ireturn, 1) := by decide +kernel
theorem dX1_look_220 : decode cX1_look 220 = .ok (.iconst (-1), 1) := by decide +kernel
theorem dX1_look_221 : decode cX1_look 221 = .ok (.ireturn, 1) := by decide +kernel
def RL : String := "TraceLineLaw"
abbrev cL_law : ByteArray := code
abbrev cL_of : ByteArray := method_3_code
theorem dL_of_0 : decode cL_of 0 = .ok (.aload_n 3, 1) := by decide +kernel
theorem dL_of_1 : decode cL_of 1 = .ok (.iconst 0, 1) := by decide +kernel
theorem dL_of_2 : decode cL_of 2 = .ok (.aload_n 0, 1) := by decide +kernel
theorem dL_of_3 : decode cL_of 3 = .ok (.iload_n 1, 1) := by decide +kernel
theorem dL_of_4 : decode cL_of 4 = .ok (.iload_n 2, 1) := by decide +kernel
theorem dL_of_5 : decode cL_of 5 = .ok (.invokevirtual 7, 3) := by decide +kernel
theorem dL_of_8 : decode cL_of 8 = .ok (.i2l, 1) := by decide +kernel
theorem dL_of_9 : decode cL_of 9 = .ok (.lastore, 1) := by decide +kernel
theorem dL_of_10 : decode cL_of 10 = .ok (.goto 7, 3) := by decide +kernel
theorem dL_of_13 : decode cL_of 13 = .ok (.astore 4, 2) := by decide +kernel
theorem dL_of_15 : decode cL_of 15 = .ok (.iconst 1, 1) := by decide +kernel
theorem dL_of_16 : decode cL_of 16 = .ok (.ireturn, 1) := by decide +kernel
theorem dL_of_17 : decode cL_of 17 = .ok (.iconst 0, 1) := by decide +kernel
theorem dL_of_18 : decode cL_of 18 = .ok (.ireturn, 1) := by decide +kernel
theorem dL_law_0 : decode cL_law 0 = .ok (.new 8, 3) := by decide +kernel
theorem dL_law_3 : decode cL_law 3 = .ok (.dup, 1) := by decide +kernel
theorem dL_law_4 : decode cL_law 4 = .ok (.invokespecial 15, 3) := by decide +kernel
theorem dL_law_7 : decode cL_law 7 = .ok (.astore_n 1, 1) := by decide +kernel
theorem dL_law_8 : decode cL_law 8 = .ok (.new 16, 3) := by decide +kernel
theorem dL_law_11 : decode cL_law 11 = .ok (.dup, 1) := by decide +kernel
theorem dL_law_12 : decode cL_law 12 = .ok (.invokespecial 18, 3) := by decide +kernel
theorem dL_law_15 : decode cL_law 15 = .ok (.astore_n 2, 1) := by decide +kernel
theorem dL_law_16 : decode cL_law 16 = .ok (.iconst 1, 1) := by decide +kernel
theorem dL_law_17 : decode cL_law 17 = .ok (.newarray .long, 2) := by decide +kernel
theorem dL_law_19 : decode cL_law 19 = .ok (.astore_n 3, 1) := by decide +kernel
theorem dL_law_20 : decode cL_law 20 = .ok (.iconst 0, 1) := by decide +kernel
theorem dL_law_21 : decode cL_law 21 = .ok (.istore 4, 2) := by decide +kernel
theorem dL_law_23 : decode cL_law 23 = .ok (.iload 4, 2) := by decide +kernel
theorem dL_law_25 : decode cL_law 25 = .ok (.aload_n 0, 1) := by decide +kernel
theorem dL_law_26 : decode cL_law 26 = .ok (.arraylength, 1) := by decide +kernel
theorem dL_law_27 : decode cL_law 27 = .ok (.iconst 3, 1) := by decide +kernel
theorem dL_law_28 : decode cL_law 28 = .ok (.isub, 1) := by decide +kernel
theorem dL_law_29 : decode cL_law 29 = .ok (.if_icmp .gt 375, 3) := by decide +kernel
theorem dL_law_32 : decode cL_law 32 = .ok (.aload_n 0, 1) := by decide +kernel
theorem dL_law_33 : decode cL_law 33 = .ok (.iload 4, 2) := by decide +kernel
theorem dL_law_35 : decode cL_law 35 = .ok (.iaload, 1) := by decide +kernel
theorem dL_law_36 : decode cL_law 36 = .ok (.bipush 15, 2) := by decide +kernel
theorem dL_law_38 : decode cL_law 38 = .ok (.iand, 1) := by decide +kernel
theorem dL_law_39 : decode cL_law 39 = .ok (.tableswitch 359 0 12 #[65, 90, 103, 128, 153, 166, 191, 204, 217, 230, 241, 309, 334], 65) := by decide +kernel
theorem dL_law_104 : decode cL_law 104 = .ok (.aload_n 1, 1) := by decide +kernel
theorem dL_law_105 : decode cL_law 105 = .ok (.aload_n 0, 1) := by decide +kernel
theorem dL_law_106 : decode cL_law 106 = .ok (.iload 4, 2) := by decide +kernel
theorem dL_law_108 : decode cL_law 108 = .ok (.iconst 1, 1) := by decide +kernel
theorem dL_law_109 : decode cL_law 109 = .ok (.iadd, 1) := by decide +kernel
theorem dL_law_110 : decode cL_law 110 = .ok (.iaload, 1) := by decide +kernel
theorem dL_law_111 : decode cL_law 111 = .ok (.invokevirtual 19, 3) := by decide +kernel
theorem dL_law_114 : decode cL_law 114 = .ok (.aload_n 2, 1) := by decide +kernel
theorem dL_law_115 : decode cL_law 115 = .ok (.aload_n 0, 1) := by decide +kernel
theorem dL_law_116 : decode cL_law 116 = .ok (.iload 4, 2) := by decide +kernel
theorem dL_law_118 : decode cL_law 118 = .ok (.iconst 1, 1) := by decide +kernel
theorem dL_law_119 : decode cL_law 119 = .ok (.iadd, 1) := by decide +kernel
theorem dL_law_120 : decode cL_law 120 = .ok (.iaload, 1) := by decide +kernel
theorem dL_law_121 : decode cL_law 121 = .ok (.invokevirtual 23, 3) := by decide +kernel
theorem dL_law_124 : decode cL_law 124 = .ok (.if_icmp .eq 274, 3) := by decide +kernel
theorem dL_law_127 : decode cL_law 127 = .ok (.iconst 0, 1) := by decide +kernel
theorem dL_law_128 : decode cL_law 128 = .ok (.ireturn, 1) := by decide +kernel
theorem dL_law_129 : decode cL_law 129 = .ok (.aload_n 1, 1) := by decide +kernel
theorem dL_law_130 : decode cL_law 130 = .ok (.invokevirtual 24, 3) := by decide +kernel
theorem dL_law_133 : decode cL_law 133 = .ok (.aload_n 2, 1) := by decide +kernel
theorem dL_law_134 : decode cL_law 134 = .ok (.invokevirtual 28, 3) := by decide +kernel
theorem dL_law_137 : decode cL_law 137 = .ok (.if_icmp .eq 261, 3) := by decide +kernel
theorem dL_law_140 : decode cL_law 140 = .ok (.iconst 0, 1) := by decide +kernel
theorem dL_law_141 : decode cL_law 141 = .ok (.ireturn, 1) := by decide +kernel
theorem dL_law_142 : decode cL_law 142 = .ok (.aload_n 1, 1) := by decide +kernel
theorem dL_law_143 : decode cL_law 143 = .ok (.aload_n 0, 1) := by decide +kernel
theorem dL_law_144 : decode cL_law 144 = .ok (.iload 4, 2) := by decide +kernel
theorem dL_law_146 : decode cL_law 146 = .ok (.iconst 1, 1) := by decide +kernel
theorem dL_law_147 : decode cL_law 147 = .ok (.iadd, 1) := by decide +kernel
theorem dL_law_148 : decode cL_law 148 = .ok (.iaload, 1) := by decide +kernel
theorem dL_law_149 : decode cL_law 149 = .ok (.invokevirtual 29, 3) := by decide +kernel
theorem dL_law_152 : decode cL_law 152 = .ok (.aload_n 2, 1) := by decide +kernel
theorem dL_law_153 : decode cL_law 153 = .ok (.aload_n 0, 1) := by decide +kernel
theorem dL_law_154 : decode cL_law 154 = .ok (.iload 4, 2) := by decide +kernel
theorem dL_law_156 : decode cL_law 156 = .ok (.iconst 1, 1) := by decide +kernel
theorem dL_law_157 : decode cL_law 157 = .ok (.iadd, 1) := by decide +kernel
theorem dL_law_158 : decode cL_law 158 = .ok (.iaload, 1) := by decide +kernel
theorem dL_law_159 : decode cL_law 159 = .ok (.invokevirtual 33, 3) := by decide +kernel
theorem dL_law_162 : decode cL_law 162 = .ok (.if_icmp .eq 236, 3) := by decide +kernel
theorem dL_law_165 : decode cL_law 165 = .ok (.iconst 0, 1) := by decide +kernel
theorem dL_law_166 : decode cL_law 166 = .ok (.ireturn, 1) := by decide +kernel
theorem dL_law_167 : decode cL_law 167 = .ok (.aload_n 1, 1) := by decide +kernel
theorem dL_law_168 : decode cL_law 168 = .ok (.aload_n 0, 1) := by decide +kernel
theorem dL_law_169 : decode cL_law 169 = .ok (.iload 4, 2) := by decide +kernel
theorem dL_law_171 : decode cL_law 171 = .ok (.iconst 1, 1) := by decide +kernel
theorem dL_law_172 : decode cL_law 172 = .ok (.iadd, 1) := by decide +kernel
theorem dL_law_173 : decode cL_law 173 = .ok (.iaload, 1) := by decide +kernel
theorem dL_law_174 : decode cL_law 174 = .ok (.invokevirtual 34, 3) := by decide +kernel
theorem dL_law_177 : decode cL_law 177 = .ok (.aload_n 2, 1) := by decide +kernel
theorem dL_law_178 : decode cL_law 178 = .ok (.aload_n 0, 1) := by decide +kernel
theorem dL_law_179 : decode cL_law 179 = .ok (.iload 4, 2) := by decide +kernel
theorem dL_law_181 : decode cL_law 181 = .ok (.iconst 1, 1) := by decide +kernel
theorem dL_law_182 : decode cL_law 182 = .ok (.iadd, 1) := by decide +kernel
theorem dL_law_183 : decode cL_law 183 = .ok (.iaload, 1) := by decide +kernel
theorem dL_law_184 : decode cL_law 184 = .ok (.invokevirtual 37, 3) := by decide +kernel
theorem dL_law_187 : decode cL_law 187 = .ok (.if_icmp .eq 211, 3) := by decide +kernel
theorem dL_law_190 : decode cL_law 190 = .ok (.iconst 0, 1) := by decide +kernel
theorem dL_law_191 : decode cL_law 191 = .ok (.ireturn, 1) := by decide +kernel
theorem dL_law_192 : decode cL_law 192 = .ok (.aload_n 1, 1) := by decide +kernel
theorem dL_law_193 : decode cL_law 193 = .ok (.invokevirtual 38, 3) := by decide +kernel
theorem dL_law_196 : decode cL_law 196 = .ok (.aload_n 2, 1) := by decide +kernel
theorem dL_law_197 : decode cL_law 197 = .ok (.invokevirtual 41, 3) := by decide +kernel
theorem dL_law_200 : decode cL_law 200 = .ok (.if_icmp .eq 198, 3) := by decide +kernel
theorem dL_law_203 : decode cL_law 203 = .ok (.iconst 0, 1) := by decide +kernel
theorem dL_law_204 : decode cL_law 204 = .ok (.ireturn, 1) := by decide +kernel
theorem dL_law_205 : decode cL_law 205 = .ok (.aload_n 1, 1) := by decide +kernel
theorem dL_law_206 : decode cL_law 206 = .ok (.aload_n 0, 1) := by decide +kernel
theorem dL_law_207 : decode cL_law 207 = .ok (.iload 4, 2) := by decide +kernel
theorem dL_law_209 : decode cL_law 209 = .ok (.iconst 1, 1) := by decide +kernel
theorem dL_law_210 : decode cL_law 210 = .ok (.iadd, 1) := by decide +kernel
theorem dL_law_211 : decode cL_law 211 = .ok (.iaload, 1) := by decide +kernel
theorem dL_law_212 : decode cL_law 212 = .ok (.invokevirtual 42, 3) := by decide +kernel
theorem dL_law_215 : decode cL_law 215 = .ok (.aload_n 2, 1) := by decide +kernel
theorem dL_law_216 : decode cL_law 216 = .ok (.aload_n 0, 1) := by decide +kernel
theorem dL_law_217 : decode cL_law 217 = .ok (.iload 4, 2) := by decide +kernel
theorem dL_law_219 : decode cL_law 219 = .ok (.iconst 1, 1) := by decide +kernel
theorem dL_law_220 : decode cL_law 220 = .ok (.iadd, 1) := by decide +kernel
theorem dL_law_221 : decode cL_law 221 = .ok (.iaload, 1) := by decide +kernel
theorem dL_law_222 : decode cL_law 222 = .ok (.invokevirtual 45, 3) := by decide +kernel
theorem dL_law_225 : decode cL_law 225 = .ok (.if_icmp .eq 173, 3) := by decide +kernel
theorem dL_law_228 : decode cL_law 228 = .ok (.iconst 0, 1) := by decide +kernel
theorem dL_law_229 : decode cL_law 229 = .ok (.ireturn, 1) := by decide +kernel
theorem dL_law_230 : decode cL_law 230 = .ok (.aload_n 1, 1) := by decide +kernel
theorem dL_law_231 : decode cL_law 231 = .ok (.invokevirtual 46, 3) := by decide +kernel
theorem dL_law_234 : decode cL_law 234 = .ok (.aload_n 2, 1) := by decide +kernel
theorem dL_law_235 : decode cL_law 235 = .ok (.invokevirtual 49, 3) := by decide +kernel
theorem dL_law_238 : decode cL_law 238 = .ok (.if_icmp .eq 160, 3) := by decide +kernel
theorem dL_law_241 : decode cL_law 241 = .ok (.iconst 0, 1) := by decide +kernel
theorem dL_law_242 : decode cL_law 242 = .ok (.ireturn, 1) := by decide +kernel
theorem dL_law_243 : decode cL_law 243 = .ok (.aload_n 1, 1) := by decide +kernel
theorem dL_law_244 : decode cL_law 244 = .ok (.invokevirtual 50, 3) := by decide +kernel
theorem dL_law_247 : decode cL_law 247 = .ok (.aload_n 2, 1) := by decide +kernel
theorem dL_law_248 : decode cL_law 248 = .ok (.invokevirtual 54, 3) := by decide +kernel
theorem dL_law_251 : decode cL_law 251 = .ok (.if_icmp .eq 147, 3) := by decide +kernel
theorem dL_law_254 : decode cL_law 254 = .ok (.iconst 0, 1) := by decide +kernel
theorem dL_law_255 : decode cL_law 255 = .ok (.ireturn, 1) := by decide +kernel
theorem dL_law_256 : decode cL_law 256 = .ok (.aload_n 1, 1) := by decide +kernel
theorem dL_law_257 : decode cL_law 257 = .ok (.invokevirtual 55, 3) := by decide +kernel
theorem dL_law_260 : decode cL_law 260 = .ok (.aload_n 2, 1) := by decide +kernel
theorem dL_law_261 : decode cL_law 261 = .ok (.invokevirtual 58, 3) := by decide +kernel
theorem dL_law_264 : decode cL_law 264 = .ok (.if_icmp .eq 134, 3) := by decide +kernel
theorem dL_law_267 : decode cL_law 267 = .ok (.iconst 0, 1) := by decide +kernel
theorem dL_law_268 : decode cL_law 268 = .ok (.ireturn, 1) := by decide +kernel
theorem dL_law_269 : decode cL_law 269 = .ok (.aload_n 1, 1) := by decide +kernel
theorem dL_law_270 : decode cL_law 270 = .ok (.invokevirtual 59, 3) := by decide +kernel
theorem dL_law_273 : decode cL_law 273 = .ok (.aload_n 2, 1) := by decide +kernel
theorem dL_law_274 : decode cL_law 274 = .ok (.invokevirtual 62, 3) := by decide +kernel
theorem dL_law_277 : decode cL_law 277 = .ok (.goto 121, 3) := by decide +kernel
theorem dL_law_280 : decode cL_law 280 = .ok (.aload_n 1, 1) := by decide +kernel
theorem dL_law_281 : decode cL_law 281 = .ok (.aload_n 0, 1) := by decide +kernel
theorem dL_law_282 : decode cL_law 282 = .ok (.iload 4, 2) := by decide +kernel
theorem dL_law_284 : decode cL_law 284 = .ok (.iconst 1, 1) := by decide +kernel
theorem dL_law_285 : decode cL_law 285 = .ok (.iadd, 1) := by decide +kernel
theorem dL_law_286 : decode cL_law 286 = .ok (.iaload, 1) := by decide +kernel
theorem dL_law_287 : decode cL_law 287 = .ok (.aload_n 0, 1) := by decide +kernel
theorem dL_law_288 : decode cL_law 288 = .ok (.iload 4, 2) := by decide +kernel
theorem dL_law_290 : decode cL_law 290 = .ok (.iconst 2, 1) := by decide +kernel
theorem dL_law_291 : decode cL_law 291 = .ok (.iadd, 1) := by decide +kernel
theorem dL_law_292 : decode cL_law 292 = .ok (.iaload, 1) := by decide +kernel
theorem dL_law_293 : decode cL_law 293 = .ok (.aload_n 3, 1) := by decide +kernel
theorem dL_law_294 : decode cL_law 294 = .ok (.invokestatic 63, 3) := by decide +kernel
theorem dL_law_297 : decode cL_law 297 = .ok (.istore 5, 2) := by decide +kernel
theorem dL_law_299 : decode cL_law 299 = .ok (.aload_n 2, 1) := by decide +kernel
theorem dL_law_300 : decode cL_law 300 = .ok (.aload_n 0, 1) := by decide +kernel
theorem dL_law_301 : decode cL_law 301 = .ok (.iload 4, 2) := by decide +kernel
theorem dL_law_303 : decode cL_law 303 = .ok (.iconst 1, 1) := by decide +kernel
theorem dL_law_304 : decode cL_law 304 = .ok (.iadd, 1) := by decide +kernel
theorem dL_law_305 : decode cL_law 305 = .ok (.iaload, 1) := by decide +kernel
theorem dL_law_306 : decode cL_law 306 = .ok (.aload_n 0, 1) := by decide +kernel
theorem dL_law_307 : decode cL_law 307 = .ok (.iload 4, 2) := by decide +kernel
theorem dL_law_309 : decode cL_law 309 = .ok (.iconst 2, 1) := by decide +kernel
theorem dL_law_310 : decode cL_law 310 = .ok (.iadd, 1) := by decide +kernel
theorem dL_law_311 : decode cL_law 311 = .ok (.iaload, 1) := by decide +kernel
theorem dL_law_312 : decode cL_law 312 = .ok (.invokevirtual 68, 3) := by decide +kernel
theorem dL_law_315 : decode cL_law 315 = .ok (.istore 6, 2) := by decide +kernel
theorem dL_law_317 : decode cL_law 317 = .ok (.aload_n 2, 1) := by decide +kernel
theorem dL_law_318 : decode cL_law 318 = .ok (.invokevirtual 69, 3) := by decide +kernel
theorem dL_law_321 : decode cL_law 321 = .ok (.iload 5, 2) := by decide +kernel
theorem dL_law_323 : decode cL_law 323 = .ok (.if_icmp .eq 5, 3) := by decide +kernel
theorem dL_law_326 : decode cL_law 326 = .ok (.iconst 0, 1) := by decide +kernel
theorem dL_law_327 : decode cL_law 327 = .ok (.ireturn, 1) := by decide +kernel
theorem dL_law_328 : decode cL_law 328 = .ok (.iload 5, 2) := by decide +kernel
theorem dL_law_330 : decode cL_law 330 = .ok (.ifCond .ne 15, 3) := by decide +kernel
theorem dL_law_333 : decode cL_law 333 = .ok (.aload_n 3, 1) := by decide +kernel
theorem dL_law_334 : decode cL_law 334 = .ok (.iconst 0, 1) := by decide +kernel
theorem dL_law_335 : decode cL_law 335 = .ok (.laload, 1) := by decide +kernel
theorem dL_law_336 : decode cL_law 336 = .ok (.iload 6, 2) := by decide +kernel
theorem dL_law_338 : decode cL_law 338 = .ok (.i2l, 1) := by decide +kernel
theorem dL_law_339 : decode cL_law 339 = .ok (.lcmp, 1) := by decide +kernel
theorem dL_law_340 : decode cL_law 340 = .ok (.ifCond .eq 5, 3) := by decide +kernel
theorem dL_law_343 : decode cL_law 343 = .ok (.iconst 0, 1) := by decide +kernel
theorem dL_law_344 : decode cL_law 344 = .ok (.ireturn, 1) := by decide +kernel
theorem dL_law_345 : decode cL_law 345 = .ok (.goto 53, 3) := by decide +kernel
theorem dL_law_348 : decode cL_law 348 = .ok (.aload_n 1, 1) := by decide +kernel
theorem dL_law_349 : decode cL_law 349 = .ok (.aload_n 0, 1) := by decide +kernel
theorem dL_law_350 : decode cL_law 350 = .ok (.iload 4, 2) := by decide +kernel
theorem dL_law_352 : decode cL_law 352 = .ok (.iconst 1, 1) := by decide +kernel
theorem dL_law_353 : decode cL_law 353 = .ok (.iadd, 1) := by decide +kernel
theorem dL_law_354 : decode cL_law 354 = .ok (.iaload, 1) := by decide +kernel
theorem dL_law_355 : decode cL_law 355 = .ok (.invokevirtual 72, 3) := by decide +kernel
theorem dL_law_358 : decode cL_law 358 = .ok (.aload_n 2, 1) := by decide +kernel
theorem dL_law_359 : decode cL_law 359 = .ok (.aload_n 0, 1) := by decide +kernel
theorem dL_law_360 : decode cL_law 360 = .ok (.iload 4, 2) := by decide +kernel
theorem dL_law_362 : decode cL_law 362 = .ok (.iconst 1, 1) := by decide +kernel
theorem dL_law_363 : decode cL_law 363 = .ok (.iadd, 1) := by decide +kernel
theorem dL_law_364 : decode cL_law 364 = .ok (.iaload, 1) := by decide +kernel
theorem dL_law_365 : decode cL_law 365 = .ok (.invokevirtual 75, 3) := by decide +kernel
theorem dL_law_368 : decode cL_law 368 = .ok (.if_icmp .eq 30, 3) := by decide +kernel
theorem dL_law_371 : decode cL_law 371 = .ok (.iconst 0, 1) := by decide +kernel
theorem dL_law_372 : decode cL_law 372 = .ok (.ireturn, 1) := by decide +kernel
theorem dL_law_373 : decode cL_law 373 = .ok (.aload_n 1, 1) := by decide +kernel
theorem dL_law_374 : decode cL_law 374 = .ok (.aload_n 0, 1) := by decide +kernel
theorem dL_law_375 : decode cL_law 375 = .ok (.iload 4, 2) := by decide +kernel
theorem dL_law_377 : decode cL_law 377 = .ok (.iconst 1, 1) := by decide +kernel
theorem dL_law_378 : decode cL_law 378 = .ok (.iadd, 1) := by decide +kernel
theorem dL_law_379 : decode cL_law 379 = .ok (.iaload, 1) := by decide +kernel
theorem dL_law_380 : decode cL_law 380 = .ok (.invokevirtual 76, 3) := by decide +kernel
theorem dL_law_383 : decode cL_law 383 = .ok (.aload_n 2, 1) := by decide +kernel
theorem dL_law_384 : decode cL_law 384 = .ok (.aload_n 0, 1) := by decide +kernel
theorem dL_law_385 : decode cL_law 385 = .ok (.iload 4, 2) := by decide +kernel
theorem dL_law_387 : decode cL_law 387 = .ok (.iconst 1, 1) := by decide +kernel
theorem dL_law_388 : decode cL_law 388 = .ok (.iadd, 1) := by decide +kernel
theorem dL_law_389 : decode cL_law 389 = .ok (.iaload, 1) := by decide +kernel
theorem dL_law_390 : decode cL_law 390 = .ok (.invokevirtual 79, 3) := by decide +kernel
theorem dL_law_393 : decode cL_law 393 = .ok (.if_icmp .eq 5, 3) := by decide +kernel
theorem dL_law_396 : decode cL_law 396 = .ok (.iconst 0, 1) := by decide +kernel
theorem dL_law_397 : decode cL_law 397 = .ok (.ireturn, 1) := by decide +kernel
theorem dL_law_398 : decode cL_law 398 = .ok (.iinc 4 3, 3) := by decide +kernel
theorem dL_law_401 : decode cL_law 401 = .ok (.goto (-378), 3) := by decide +kernel
theorem dL_law_404 : decode cL_law 404 = .ok (.iconst 1, 1) := by decide +kernel
theorem dL_law_405 : decode cL_law 405 = .ok (.ireturn, 1) := by decide +kernel
abbrev vwCl : List vw_C := [(RX0, TX0, 17), (RX1, TX1, 17)]
