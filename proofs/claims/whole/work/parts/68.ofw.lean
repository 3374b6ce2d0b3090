def xE_ : String := "java/lang/IllegalArgumentException"
def xN_ : List String := ["java/lang/RuntimeException", "java/lang/Exception"]
/-- the words of the throw in of; those that the kit's calls don't hand on -/
def xW_ : List Cond := vx_atS RX0 113 xE_ xN_
def xB_ : List Cond := xW_.filter (fun w => !goodWord w)
def xG_ : List Cond := xW_.filter goodWord
set_option maxRecDepth 100000 in
theorem xW_tbl : ∀ w ∈ xW_, w ∈ lw_tbl := by decide +kernel
set_option maxRecDepth 100000 in
theorem xW_ot : ∀ w ∈ Cond.classLink RX0 109 xE_ :: Cond.initialized xE_ :: xW_, vx_ot w = true := by decide +kernel
set_option maxRecDepth 100000 in
theorem xB_face : ∀ w ∈ xB_, w.faceAtom = true ∧ w.onTables = true := by decide +kernel
theorem xB_moved {a a' : Array Value} {s U : State} (h : s.vm.Alike U.vm) (hb : ∀ w ∈ xB_, w.before a s = true) : ∀ w ∈ xB_, w.before a' U = true := fun w hw => by
  obtain ⟨h1, h2⟩ := xB_face w hw
  have h3 := Cond.faceAtom_setVm (args := a) h w h1 (hb w hw)
  rw [Cond.onTables_vm (A' := a') (U' := U) U.vm w h2] at h3
  exact h3
def wsXo_ : List Cond := .code yX0_of cX0_of 3 (some .int) :: (Cond.classLink RX0 109 xE_ :: Cond.initialized xE_ :: (xG_ ++ wsX_))
theorem xG_good : GoodIn lw_tbl xG_ := fun w h => ⟨xW_tbl w (List.mem_filter.mp h).1, good_of_word (List.mem_filter.mp h).2⟩
set_option maxRecDepth 100000 in
theorem xC_good : GoodIn lw_tbl [Cond.classLink RX0 109 xE_, Cond.initialized xE_] := goodIn_r _ [228, 41] (by decide +kernel) (by decide +kernel)
theorem wsXo_good : GoodIn lw_tbl wsXo_ := fun w h => by
  rcases List.mem_cons.mp h with rfl | h
  · exact glX_ _ mX_co_of
  · rcases List.mem_cons.mp h with rfl | h
    · exact xC_good _ List.mem_cons_self
    · rcases List.mem_cons.mp h with rfl | h
      · exact xC_good _ (List.mem_cons_of_mem _ List.mem_cons_self)
      · rcases List.mem_append.mp h with h | h
        · exact xG_good w h
        · exact glX_ w h
/-- all the words of the throw, at the start of of -/
theorem xW_at {a : Array Value} {s : State} (h1 : ∀ w ∈ wsXo_, w.before a s = true) (h2 : ∀ w ∈ xB_, w.before a s = true) : ∀ w ∈ xW_, w.before a s = true := fun w hw => by
  by_cases hg : goodWord w = true
  · exact h1 w (List.mem_cons_of_mem _ (List.mem_cons_of_mem _ (List.mem_cons_of_mem _ (List.mem_append_left _ (List.mem_filter.mpr ⟨hw, hg⟩)))))
  · exact h2 w (List.mem_filter.mpr ⟨hw, by simp [hg]⟩)
