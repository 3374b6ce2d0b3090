/-- what holds of the class's state between two calls -/
def ix_ (ky wt sa ea sm ln fi fk fo op : Int → Int) (ni ns ev cu wa fr oo K : Int) : Prop :=
  pw_ sa ea ln ev ∧ nv_ sa ea cu fi fo fr op oo ∧ ct_ sa sm wt ni ns wa K ∧ (1 ≤ fr ∧ fr ≤ 64 ∧ fi 0 = -1 ∧ fk 0 = 0 ∧ fo 0 = 0) ∧
  (∀ f : Int, 1 ≤ f → f < fr → fk f = 1 ∨ fk f = 2) ∧ (∀ f : Int, 0 ≤ f → f < fr → 0 ≤ fo f ∧ fo f ≤ oo) ∧ (∀ f : Int, 0 ≤ f → f + 1 < fr → fo f ≤ fo (f + 1)) ∧
  (0 ≤ cu ∧ cu ≤ ev ∧ ev < 1200 ∧ 0 ≤ oo ∧ oo < 600) ∧ (∀ j : Int, 0 ≤ j → j < 600 → sm j = 0 ∨ sm j = 1) ∧ (∀ j : Int, 0 ≤ j → j < 600 → zr_ (ky j)) ∧
  (∀ j : Int, 0 ≤ j → j < 600 → 0 ≤ wt j) ∧ (0 ≤ K ∧ wa ≤ 1000000000) ∧ (∀ j : Int, 0 ≤ j → j < 600 → sa j ≠ -1 → sm j = 1 → ea j ≠ -1)
theorem ix_f {ky wt sa ea sm ln fi fk fo op : Int → Int} {ni ns ev cu wa fr oo K : Int} (h : ix_ ky wt sa ea sm ln fi fk fo op ni ns ev cu wa fr oo K) :
    (-1 ≤ fi (fr - 1) ∧ fi (fr - 1) < 600) ∧ (0 ≤ fo (fr - 1) ∧ fo (fr - 1) ≤ 600) ∧ fo (fr - 1) ≤ oo ∧ cu ≤ lm_ fi ea ev fr ∧ lm_ fi ea ev fr ≤ ev ∧ (fi (fr - 1) = -1 ↔ fr = 1) ∧ (fk (fr - 1) = 0 ∨ fk (fr - 1) = 1 ∨ fk (fr - 1) = 2) ∧ (fk (fr - 1) = 0 ↔ fr = 1) ∧ (fo (fr - 1) < oo → 0 ≤ op (oo - 1) ∧ op (oo - 1) < 600) ∧ 0 ≤ wa ∧ (1 < fr → sa (fi (fr - 1)) ≠ -1 ∧ ea (fi (fr - 1)) ≠ -1 ∧ cu ≤ ea (fi (fr - 1)) ∧ ea (fi (fr - 1)) < ev) := by
  obtain ⟨hw, ⟨n1, n2, n3, n4, n5, n6, n7⟩, hct, ⟨hf1, hf2, hi0, hk0, ho0⟩, hkd, hfo, hfm, ⟨hc0, hc3, hev, ho1, ho2⟩, hsm, hky, hwt, ⟨hK0, hwa⟩, hse⟩ := h
  have hwa0 : 0 ≤ wa := by
    obtain ⟨-, -, c3⟩ := hct
    have := sg_nn (g := cw_ sa wt) 600 (fun j h0 h1 => by
      unfold cw_
      by_cases hq : sa j = -1
      · rw [if_pos hq]; omega
      · rw [if_neg hq]; exact hwt j h0 h1)
    omega
  have a1 := hfo (fr - 1) (by omega) (by omega)
  have a2 : fo (fr - 1) < oo → 0 ≤ op (oo - 1) ∧ op (oo - 1) < 600 := fun h => ⟨(n5 (oo - 1) (by omega) (by omega)).1, (n5 (oo - 1) (by omega) (by omega)).2.1⟩
  by_cases h1 : fr = 1
  · have e1 : fr - 1 = 0 := by omega
    have e2 : lm_ fi ea ev fr = ev := by unfold lm_; rw [e1, if_pos hi0]
    rw [e2, e1, hi0, hk0, ho0]
    exact ⟨by omega, by omega, by omega, hc3, by omega, ⟨fun _ => h1, fun _ => rfl⟩, Or.inl rfl, ⟨fun _ => h1, fun _ => rfl⟩, fun h => a2 (by rw [e1, ho0]; exact h), hwa0, fun h => by omega⟩
  · obtain ⟨b1, b2, b3, b4⟩ := n2 (fr - 1) (by omega) (by omega)
    have b5 := n4 (by omega)
    have b6 := hkd (fr - 1) (by omega) (by omega)
    have b7 := hw.2.2.1 (fi (fr - 1)) b1 b2 b3
    have e2 : lm_ fi ea ev fr = ea (fi (fr - 1)) := by unfold lm_; rw [if_neg (by omega)]
    rw [e2]
    exact ⟨by omega, by omega, by omega, by omega, by omega, ⟨fun h => by omega, fun h => absurd h h1⟩, by omega, ⟨fun h => by omega, fun h => absurd h h1⟩, a2, hwa0, fun _ => ⟨b3, b4, b5.2, by omega⟩⟩
theorem pw_ea {sa ea ln : Int → Int} {ev i v : Int} (h : pw_ sa ea ln ev) (hi : sa i = -1) : pw_ sa (up_ ea i v) ln ev := by
  obtain ⟨a1, a2, a3, a4⟩ := h
  refine ⟨a1, a2, fun j x y n => ?_, fun k x y => ?_⟩
  · rw [up_n (fun q => n (by rw [q]; exact hi))]; exact a3 j x y n
  · obtain ⟨c1, c2, c3, c4⟩ := a4 k x y
    refine ⟨c1, c2, c3, fun he => ⟨(c4 he).1, ?_⟩⟩
    rw [up_n (fun q => (c4 he).1 (by rw [q]; exact hi))]; exact (c4 he).2
section ZT
variable {p : Program} {l : Launch} {e : Env} {R : Room} {s : State} {m : MethodId} {args : Array Value} {below : List Frame} {meth : Method} {c : Code} {H : Heap} {locs : List Loc} {cells slots : Nat} {Q : State → Prop}
variable {cc : ByteArray} {pc : Nat} {ls : Array Slot} {rest : List Value}
theorem zv_tblIn (hE : ze_ p c cc) {dflt lo hi : Int} {offs : Array Int} {len : Nat} {x : Int} {off : Int} {tgt : Nat} (hdg : decode cc pc = .ok (.tableswitch dflt lo hi offs, len)) (hz : zr_ x) (h1 : lo ≤ x) (h2 : x ≤ hi) (ho : offs[(x - lo).toNat]? = some off) (ht : (pc : Int) + off = (tgt : Int))
    (k : W p l e R s m args below meth c H locs cells slots Q (F0 m tgt ls rest)) : W p l e R s m args below meth c H locs cells slots Q (F0 m pc ls (.int (zi_ x) :: rest)) :=
  lv_tableIn hE.1 hE.2 hdg (by rw [zi_toInt hz]; omega) (by rw [zi_toInt hz]; omega) (by rw [zi_toInt hz]; exact ho) ht k
theorem zv_tblOut (hE : ze_ p c cc) {dflt lo hi : Int} {offs : Array Int} {len : Nat} {x : Int} {tgt : Nat} (hdg : decode cc pc = .ok (.tableswitch dflt lo hi offs, len)) (hz : zr_ x) (h : x < lo ∨ hi < x) (ht : (pc : Int) + dflt = (tgt : Int))
    (k : W p l e R s m args below meth c H locs cells slots Q (F0 m tgt ls rest)) : W p l e R s m args below meth c H locs cells slots Q (F0 m pc ls (.int (zi_ x) :: rest)) :=
  lv_tableOut hE.1 hE.2 hdg (by rw [zi_toInt hz]; exact h) ht k
end ZT
