abbrev zr_ (z : Int) : Prop := -2147483648 ≤ z ∧ z ≤ 2147483647
def zi_ (z : Int) : Int32 := Int32.ofInt z
theorem zi_add (a b : Int) : zi_ a + zi_ b = zi_ (a + b) := (Int32.ofInt_add a b).symm
theorem zi_sub (a b : Int) : zi_ a - zi_ b = zi_ (a - b) := (Int32.ofInt_sub a b).symm
theorem zi_mul (a b : Int) : zi_ a * zi_ b = zi_ (a * b) := (Int32.ofInt_mul a b).symm
theorem zi_toInt {a : Int} (h : zr_ a) : (zi_ a).toInt = a := Int32.toInt_ofInt_of_le (by have := h.1; omega) (by have := h.2; omega)
theorem zi_le {a b : Int} (ha : zr_ a) (hb : zr_ b) : zi_ a ≤ zi_ b ↔ a ≤ b := by rw [Int32.le_iff_toInt_le, zi_toInt ha, zi_toInt hb]
theorem zi_lt {a b : Int} (ha : zr_ a) (hb : zr_ b) : zi_ a < zi_ b ↔ a < b := by rw [Int32.lt_iff_toInt_lt, zi_toInt ha, zi_toInt hb]
theorem zi_eq {a b : Int} (ha : zr_ a) (hb : zr_ b) : zi_ a = zi_ b ↔ a = b := ⟨fun h => by rw [← zi_toInt ha, ← zi_toInt hb, h], fun h => by rw [h]⟩
theorem zi_of (x : Int32) : ∃ z : Int, zr_ z ∧ x = zi_ z := ⟨x.toInt, ⟨by have := Int32.le_toInt x; omega, by have := Int32.toInt_lt x; omega⟩, (Int32.ofInt_toInt x).symm⟩
theorem zi_cl {a : Int} (h0 : 0 ≤ a) (h1 : a ≤ 2147483647) : (zi_ a).toNatClampNeg = a.toNat := Int32.toNatClampNeg_ofInt_of_le (by omega) (by omega)
theorem zi_0 : (0 : Int32) = zi_ 0 := rfl
theorem zi_nI (n : Nat) : nI n = zi_ (n : Int) := Int32.ofInt_eq_ofNat.symm
theorem zi_in {a : Int} {n : Nat} (h : 0 ≤ a ∧ a < n) (hn : n < 2147483648) : vp_in (zi_ a) n := vp_in_iff.mpr (by rw [zi_toInt ⟨by omega, by omega⟩]; exact h)
theorem zi_half {a : Int} (h : 0 ≤ a ∧ a ≤ 2147483647) : zi_ a / zi_ 2 = zi_ (a / 2) := by
  apply Int32.toInt_inj.mp
  rw [Int32.toInt_div_of_ne_right _ _ (by decide), zi_toInt ⟨by omega, by omega⟩, zi_toInt ⟨by omega, by omega⟩, zi_toInt ⟨by omega, by omega⟩]
  exact Int.tdiv_eq_ediv_of_nonneg h.1
theorem zi_rem2 {a : Int} (h : 0 ≤ a ∧ a ≤ 2147483647) : zi_ a - zi_ a / zi_ 2 * zi_ 2 = zi_ (a % 2) := by
  rw [zi_half h, zi_mul, zi_sub]
  congr 1
  omega
def zf_ (f : Int → Int) : Nat → Int32 := fun k => zi_ (f (k : Int))
def up_ (f : Int → Int) (z v : Int) : Int → Int := fun j => if j = z then v else f j
theorem up_s (f : Int → Int) (z v : Int) : up_ f z v z = v := if_pos rfl
theorem up_n {f : Int → Int} {z v j : Int} (h : j ≠ z) : up_ f z v j = f j := if_neg h
theorem zf_at {f : Int → Int} {z : Int} (h0 : 0 ≤ z) (h1 : z ≤ 2147483647) : zf_ f (zi_ z).toNatClampNeg = zi_ (f z) := by
  show zi_ (f _) = _
  rw [zi_cl h0 h1, Int.toNat_of_nonneg h0]
theorem zf_up {f : Int → Int} {z v : Int} (h0 : 0 ≤ z) (h1 : z ≤ 2147483647) : upd (zf_ f) (zi_ z).toNatClampNeg (zi_ v) = zf_ (up_ f z v) := by
  rw [zi_cl h0 h1]
  funext k
  show (if k = z.toNat then zi_ v else zi_ (f k)) = zi_ (if (k : Int) = z then v else f k)
  by_cases h : k = z.toNat
  · rw [if_pos h, if_pos (by omega)]
  · rw [if_neg h, if_neg (by omega)]
def zb_ (z : Int) : Prop := z = 0 ∨ z = 1
theorem zb_nar {z : Int} (h : zb_ z) : vp_nar .boolean (zi_ z) = zi_ z := by
  rcases h with h | h <;> subst h <;> rfl
theorem zb_ret {z : Int} (h : zb_ z) : narrow .boolean (.int (zi_ z)) = .int (zi_ z) := by
  rcases h with h | h <;> subst h <;> rfl
/-- longs -/
def zl_ (z : Int) : Int64 := Int64.ofInt z
abbrev zs_ (z : Int) : Prop := -9223372036854775808 ≤ z ∧ z ≤ 9223372036854775807
theorem zl_add (a b : Int) : zl_ a + zl_ b = zl_ (a + b) := (Int64.ofInt_add a b).symm
theorem zl_toInt {a : Int} (h : zs_ a) : (zl_ a).toInt = a := Int64.toInt_ofInt_of_le (by have := h.1; omega) (by have := h.2; omega)
theorem zl_of {a : Int} (h : zr_ a) : (zi_ a).toInt64 = zl_ a := Int64.toInt_inj.mp (by rw [Int32.toInt_toInt64, zi_toInt h, zl_toInt ⟨by omega, by omega⟩])
theorem zl_to (a : Int) : (zl_ a).toInt32 = zi_ a := Int64.toInt32_ofInt
def sn_ (x y : Int) : Int := if y < x then 1 else if x = y then 0 else -1
theorem sn_cmp {x y : Int} (hx : zs_ x) (hy : zs_ y) : lg_cmp (zl_ x) (zl_ y) = zi_ (sn_ x y) := by
  unfold lg_cmp sn_
  have e1 : (zl_ x > zl_ y) ↔ y < x := by
    show zl_ y < zl_ x ↔ _
    rw [Int64.lt_iff_toInt_lt, zl_toInt hx, zl_toInt hy]
  have e2 : zl_ x = zl_ y ↔ x = y := ⟨fun h => by rw [← zl_toInt hx, ← zl_toInt hy, h], fun h => by rw [h]⟩
  by_cases h1 : y < x
  · rw [if_pos h1, if_pos (e1.mpr h1)]; rfl
  · rw [if_neg h1, if_neg (fun q => h1 (e1.mp q))]
    by_cases h2 : x = y
    · rw [if_pos h2, if_pos (e2.mpr h2)]; rfl
    · rw [if_neg h2, if_neg (fun q => h2 (e2.mp q))]; rfl
theorem sn_le (x y : Int) : sn_ x y ≤ 0 ↔ x ≤ y := by
  unfold sn_
  by_cases h1 : y < x
  · rw [if_pos h1]; omega
  · rw [if_neg h1]
    by_cases h2 : x = y
    · rw [if_pos h2]; omega
    · rw [if_neg h2]; omega
theorem sn_eq (x y : Int) : sn_ x y = 0 ↔ x = y := by
  unfold sn_
  by_cases h1 : y < x
  · rw [if_pos h1]; omega
  · rw [if_neg h1]
    by_cases h2 : x = y
    · rw [if_pos h2]; omega
    · rw [if_neg h2]; omega
theorem sn_zr (x y : Int) : zr_ (sn_ x y) := by
  unfold sn_
  by_cases h1 : y < x
  · rw [if_pos h1]; exact ⟨by decide, by decide⟩
  · rw [if_neg h1]
    by_cases h2 : x = y
    · rw [if_pos h2]; exact ⟨by decide, by decide⟩
    · rw [if_neg h2]; exact ⟨by decide, by decide⟩
abbrev ze_ (p : Program) (c : Code) (cc : ByteArray) : Prop := p.tables.exec = Jvm.exec ∧ c.code = cc
abbrev hp_ (D : va_G) (cl : List vw_C) (A : Nat → Prop) (H0 : Heap) (ws : va_W) (H : Heap) (locs : List Loc) : Prop := va_P D cl ws H ∧ va_D A ws ∧ va_S A H0 H locs
section ZV
variable {p : Program} {l : Launch} {e : Env} {R : Room} {s : State} {m : MethodId} {args : Array Value} {below : List Frame} {meth : Method} {c : Code} {H : Heap} {locs : List Loc} {cells slots : Nat} {Q : State → Prop}
variable {cc : ByteArray} {pc : Nat} {ls : Array Slot} {rest : List Value} {D : va_G} {cl : List vw_C} {A : Nat → Prop} {a : Nat} {tys : List (ClassId × FieldType)} {ws : va_W} {H0 : Heap}

theorem zv_iadd (hE : ze_ p c cc) {x y : Int} (hdg : decode cc pc = .ok (.iadd, 1)) (k : W p l e R s m args below meth c H locs cells slots Q (F0 m (pc + 1) ls (.int (zi_ (x + y)) :: rest))) : W p l e R s m args below meth c H locs cells slots Q (F0 m pc ls (.int (zi_ y) :: .int (zi_ x) :: rest)) := lv_iadd hE.1 hE.2 hdg (by rw [zi_add]; exact k)
theorem zv_isub (hE : ze_ p c cc) {x y : Int} (hdg : decode cc pc = .ok (.isub, 1)) (k : W p l e R s m args below meth c H locs cells slots Q (F0 m (pc + 1) ls (.int (zi_ (x - y)) :: rest))) : W p l e R s m args below meth c H locs cells slots Q (F0 m pc ls (.int (zi_ y) :: .int (zi_ x) :: rest)) := lv_isub hE.1 hE.2 hdg (by rw [zi_sub]; exact k)
theorem zv_imul (hE : ze_ p c cc) {x y : Int} (hdg : decode cc pc = .ok (.imul, 1)) (k : W p l e R s m args below meth c H locs cells slots Q (F0 m (pc + 1) ls (.int (zi_ (x * y)) :: rest))) : W p l e R s m args below meth c H locs cells slots Q (F0 m pc ls (.int (zi_ y) :: .int (zi_ x) :: rest)) := lv_imul hE.1 hE.2 hdg (by rw [zi_mul]; exact k)
theorem zv_half (hE : ze_ p c cc) {x : Int} (h : 0 ≤ x ∧ x ≤ 2147483647) (hdg : decode cc pc = .ok (.idiv, 1)) (k : W p l e R s m args below meth c H locs cells slots Q (F0 m (pc + 1) ls (.int (zi_ (x / 2)) :: rest))) : W p l e R s m args below meth c H locs cells slots Q (F0 m pc ls (.int (zi_ 2) :: .int (zi_ x) :: rest)) := lv_idiv hE.1 hE.2 hdg (by decide) (by rw [zi_half h]; exact k)
theorem zv_rem2 (hE : ze_ p c cc) {x : Int} (h : 0 ≤ x ∧ x ≤ 2147483647) (hdg : decode cc pc = .ok (.irem, 1)) (k : W p l e R s m args below meth c H locs cells slots Q (F0 m (pc + 1) ls (.int (zi_ (x % 2)) :: rest))) : W p l e R s m args below meth c H locs cells slots Q (F0 m pc ls (.int (zi_ 2) :: .int (zi_ x) :: rest)) := lv_irem hE.1 hE.2 hdg (by decide) (by rw [zi_rem2 h]; exact k)
theorem zv_iconst (hE : ze_ p c cc) {n : Int} (hdg : decode cc pc = .ok (.iconst n, 1)) (k : W p l e R s m args below meth c H locs cells slots Q (F0 m (pc + 1) ls (.int (zi_ n) :: rest))) : W p l e R s m args below meth c H locs cells slots Q (F0 m pc ls (rest)) := lv_iconst hE.1 hE.2 hdg rfl k
theorem zv_bipush (hE : ze_ p c cc) {n : Int} (hdg : decode cc pc = .ok (.bipush n, 2)) (hn : (Int8.ofInt n).toInt32 = zi_ n) (k : W p l e R s m args below meth c H locs cells slots Q (F0 m (pc + 2) ls (.int (zi_ n) :: rest))) : W p l e R s m args below meth c H locs cells slots Q (F0 m pc ls (rest)) := lv_bipush hE.1 hE.2 hdg hn k
theorem zv_sipush (hE : ze_ p c cc) {n : Int} (hdg : decode cc pc = .ok (.sipush n, 3)) (hn : (Int16.ofInt n).toInt32 = zi_ n) (k : W p l e R s m args below meth c H locs cells slots Q (F0 m (pc + 3) ls (.int (zi_ n) :: rest))) : W p l e R s m args below meth c H locs cells slots Q (F0 m pc ls (rest)) := lv_sipush hE.1 hE.2 hdg hn k
theorem zv_iinc (hE : ze_ p c cc) {i nL k : Nat} {n x : Int} {lv lv' : List (Nat × Value)} (hdg : decode cc pc = .ok (.iinc i n, 3)) (h : lv_has ls nL lv) (hk : lv[k]? = some (i, .int (zi_ x))) (hn : i < nL) (hl : (i, Value.int (zi_ (x + n))) :: lv.filter (fun q => !(q.1 == i) && !(q.1 + 1 == i && q.2.category == 2)) = lv') (kk : ∀ ls' : Array Slot, lv_has ls' nL lv' → W p l e R s m args below meth c H locs cells slots Q (F0 m (pc + 3) ls' rest)) : W p l e R s m args below meth c H locs cells slots Q (F0 m pc ls (rest)) := lv_iinc hE.1 hE.2 hdg h hk (zi_add x n) hn hl kk
theorem zv_i2l (hE : ze_ p c cc) {x : Int} (hx : zr_ x) (hdg : decode cc pc = .ok (.i2l, 1)) (k : W p l e R s m args below meth c H locs cells slots Q (F0 m (pc + 1) ls (.long (zl_ x) :: rest))) : W p l e R s m args below meth c H locs cells slots Q (F0 m pc ls (.int (zi_ x) :: rest)) := lv_i2l hE.1 hE.2 hdg (zl_of hx) k
theorem zv_l2i (hE : ze_ p c cc) {x : Int} (hdg : decode cc pc = .ok (.l2i, 1)) (k : W p l e R s m args below meth c H locs cells slots Q (F0 m (pc + 1) ls (.int (zi_ x) :: rest))) : W p l e R s m args below meth c H locs cells slots Q (F0 m pc ls (.long (zl_ x) :: rest)) := lv_l2i hE.1 hE.2 hdg (zl_to x) k
theorem zv_ladd (hE : ze_ p c cc) {x y : Int} (hdg : decode cc pc = .ok (.ladd, 1)) (k : W p l e R s m args below meth c H locs cells slots Q (F0 m (pc + 1) ls (.long (zl_ (x + y)) :: rest))) : W p l e R s m args below meth c H locs cells slots Q (F0 m pc ls (.long (zl_ y) :: .long (zl_ x) :: rest)) := lv_ladd hE.1 hE.2 hdg (by rw [zl_add]; exact k)
theorem zv_lcmp (hE : ze_ p c cc) {x y : Int} (hx : zs_ x) (hy : zs_ y) (hdg : decode cc pc = .ok (.lcmp, 1)) (k : W p l e R s m args below meth c H locs cells slots Q (F0 m (pc + 1) ls (.int (zi_ (sn_ x y)) :: rest))) : W p l e R s m args below meth c H locs cells slots Q (F0 m pc ls (.long (zl_ y) :: .long (zl_ x) :: rest)) := W.lcmp hE.1 hE.2 hdg (by rw [sn_cmp hx hy]; exact k)
theorem zv_icmp_eq (hE : ze_ p c cc) {x y off : Int} {tgt : Nat} (hdg : decode cc pc = .ok (.if_icmp .eq off, 3)) (ht : (pc : Int) + off = (tgt : Int)) (hx : zr_ x) (hy : zr_ y) (kt : x = y → W p l e R s m args below meth c H locs cells slots Q (F0 m tgt ls (rest))) (kf : ¬ x = y → W p l e R s m args below meth c H locs cells slots Q (F0 m (pc + 3) ls (rest))) : W p l e R s m args below meth c H locs cells slots Q (F0 m pc ls (.int (zi_ y) :: .int (zi_ x) :: rest)) := lv_icmp_eq hE.1 hE.2 hdg ht (fun h => kt ((zi_eq hx hy).mp h)) (fun h => kf (fun q => h ((zi_eq hx hy).mpr q)))
theorem zv_if_eq (hE : ze_ p c cc) {x off : Int} {tgt : Nat} (hdg : decode cc pc = .ok (.ifCond .eq off, 3)) (ht : (pc : Int) + off = (tgt : Int)) (hx : zr_ x) (kt : x = 0 → W p l e R s m args below meth c H locs cells slots Q (F0 m tgt ls (rest))) (kf : ¬ x = 0 → W p l e R s m args below meth c H locs cells slots Q (F0 m (pc + 3) ls (rest))) : W p l e R s m args below meth c H locs cells slots Q (F0 m pc ls (.int (zi_ x) :: rest)) := lv_if_eq hE.1 hE.2 hdg ht (fun h => kt ((zi_eq hx ⟨by decide, by decide⟩).mp h)) (fun h => kf (fun q => h ((zi_eq hx ⟨by decide, by decide⟩).mpr q)))
theorem zv_icmp_ne (hE : ze_ p c cc) {x y off : Int} {tgt : Nat} (hdg : decode cc pc = .ok (.if_icmp .ne off, 3)) (ht : (pc : Int) + off = (tgt : Int)) (hx : zr_ x) (hy : zr_ y) (kt : x ≠ y → W p l e R s m args below meth c H locs cells slots Q (F0 m tgt ls (rest))) (kf : x = y → W p l e R s m args below meth c H locs cells slots Q (F0 m (pc + 3) ls (rest))) : W p l e R s m args below meth c H locs cells slots Q (F0 m pc ls (.int (zi_ y) :: .int (zi_ x) :: rest)) := lv_icmp_ne hE.1 hE.2 hdg ht (fun h => kt (fun q => h ((zi_eq hx hy).mpr q))) (fun h => kf ((zi_eq hx hy).mp h))
theorem zv_if_ne (hE : ze_ p c cc) {x off : Int} {tgt : Nat} (hdg : decode cc pc = .ok (.ifCond .ne off, 3)) (ht : (pc : Int) + off = (tgt : Int)) (hx : zr_ x) (kt : x ≠ 0 → W p l e R s m args below meth c H locs cells slots Q (F0 m tgt ls (rest))) (kf : x = 0 → W p l e R s m args below meth c H locs cells slots Q (F0 m (pc + 3) ls (rest))) : W p l e R s m args below meth c H locs cells slots Q (F0 m pc ls (.int (zi_ x) :: rest)) := lv_if_ne hE.1 hE.2 hdg ht (fun h => kt (fun q => h ((zi_eq hx ⟨by decide, by decide⟩).mpr q))) (fun h => kf ((zi_eq hx ⟨by decide, by decide⟩).mp h))
theorem zv_icmp_lt (hE : ze_ p c cc) {x y off : Int} {tgt : Nat} (hdg : decode cc pc = .ok (.if_icmp .lt off, 3)) (ht : (pc : Int) + off = (tgt : Int)) (hx : zr_ x) (hy : zr_ y) (kt : x < y → W p l e R s m args below meth c H locs cells slots Q (F0 m tgt ls (rest))) (kf : y ≤ x → W p l e R s m args below meth c H locs cells slots Q (F0 m (pc + 3) ls (rest))) : W p l e R s m args below meth c H locs cells slots Q (F0 m pc ls (.int (zi_ y) :: .int (zi_ x) :: rest)) := lv_icmp_lt hE.1 hE.2 hdg ht (fun h => kt ((zi_lt hx hy).mp h)) (fun h => kf (Int.not_lt.mp (fun q => h ((zi_lt hx hy).mpr q))))
theorem zv_if_lt (hE : ze_ p c cc) {x off : Int} {tgt : Nat} (hdg : decode cc pc = .ok (.ifCond .lt off, 3)) (ht : (pc : Int) + off = (tgt : Int)) (hx : zr_ x) (kt : x < 0 → W p l e R s m args below meth c H locs cells slots Q (F0 m tgt ls (rest))) (kf : 0 ≤ x → W p l e R s m args below meth c H locs cells slots Q (F0 m (pc + 3) ls (rest))) : W p l e R s m args below meth c H locs cells slots Q (F0 m pc ls (.int (zi_ x) :: rest)) := lv_if_lt hE.1 hE.2 hdg ht (fun h => kt ((zi_lt hx ⟨by decide, by decide⟩).mp h)) (fun h => kf (Int.not_lt.mp (fun q => h ((zi_lt hx ⟨by decide, by decide⟩).mpr q))))
theorem zv_icmp_ge (hE : ze_ p c cc) {x y off : Int} {tgt : Nat} (hdg : decode cc pc = .ok (.if_icmp .ge off, 3)) (ht : (pc : Int) + off = (tgt : Int)) (hx : zr_ x) (hy : zr_ y) (kt : y ≤ x → W p l e R s m args below meth c H locs cells slots Q (F0 m tgt ls (rest))) (kf : x < y → W p l e R s m args below meth c H locs cells slots Q (F0 m (pc + 3) ls (rest))) : W p l e R s m args below meth c H locs cells slots Q (F0 m pc ls (.int (zi_ y) :: .int (zi_ x) :: rest)) := lv_icmp_ge hE.1 hE.2 hdg ht (fun h => kt ((zi_le hy hx).mp h)) (fun h => kf (Int.not_le.mp (fun q => h ((zi_le hy hx).mpr q))))
theorem zv_if_ge (hE : ze_ p c cc) {x off : Int} {tgt : Nat} (hdg : decode cc pc = .ok (.ifCond .ge off, 3)) (ht : (pc : Int) + off = (tgt : Int)) (hx : zr_ x) (kt : 0 ≤ x → W p l e R s m args below meth c H locs cells slots Q (F0 m tgt ls (rest))) (kf : x < 0 → W p l e R s m args below meth c H locs cells slots Q (F0 m (pc + 3) ls (rest))) : W p l e R s m args below meth c H locs cells slots Q (F0 m pc ls (.int (zi_ x) :: rest)) := lv_if_ge hE.1 hE.2 hdg ht (fun h => kt ((zi_le ⟨by decide, by decide⟩ hx).mp h)) (fun h => kf (Int.not_le.mp (fun q => h ((zi_le ⟨by decide, by decide⟩ hx).mpr q))))
theorem zv_icmp_gt (hE : ze_ p c cc) {x y off : Int} {tgt : Nat} (hdg : decode cc pc = .ok (.if_icmp .gt off, 3)) (ht : (pc : Int) + off = (tgt : Int)) (hx : zr_ x) (hy : zr_ y) (kt : y < x → W p l e R s m args below meth c H locs cells slots Q (F0 m tgt ls (rest))) (kf : x ≤ y → W p l e R s m args below meth c H locs cells slots Q (F0 m (pc + 3) ls (rest))) : W p l e R s m args below meth c H locs cells slots Q (F0 m pc ls (.int (zi_ y) :: .int (zi_ x) :: rest)) := lv_icmp_gt hE.1 hE.2 hdg ht (fun h => kt ((zi_lt hy hx).mp h)) (fun h => kf (Int.not_lt.mp (fun q => h ((zi_lt hy hx).mpr q))))
theorem zv_if_gt (hE : ze_ p c cc) {x off : Int} {tgt : Nat} (hdg : decode cc pc = .ok (.ifCond .gt off, 3)) (ht : (pc : Int) + off = (tgt : Int)) (hx : zr_ x) (kt : 0 < x → W p l e R s m args below meth c H locs cells slots Q (F0 m tgt ls (rest))) (kf : x ≤ 0 → W p l e R s m args below meth c H locs cells slots Q (F0 m (pc + 3) ls (rest))) : W p l e R s m args below meth c H locs cells slots Q (F0 m pc ls (.int (zi_ x) :: rest)) := lv_if_gt hE.1 hE.2 hdg ht (fun h => kt ((zi_lt ⟨by decide, by decide⟩ hx).mp h)) (fun h => kf (Int.not_lt.mp (fun q => h ((zi_lt ⟨by decide, by decide⟩ hx).mpr q))))
theorem zv_icmp_le (hE : ze_ p c cc) {x y off : Int} {tgt : Nat} (hdg : decode cc pc = .ok (.if_icmp .le off, 3)) (ht : (pc : Int) + off = (tgt : Int)) (hx : zr_ x) (hy : zr_ y) (kt : x ≤ y → W p l e R s m args below meth c H locs cells slots Q (F0 m tgt ls (rest))) (kf : y < x → W p l e R s m args below meth c H locs cells slots Q (F0 m (pc + 3) ls (rest))) : W p l e R s m args below meth c H locs cells slots Q (F0 m pc ls (.int (zi_ y) :: .int (zi_ x) :: rest)) := lv_icmp_le hE.1 hE.2 hdg ht (fun h => kt ((zi_le hx hy).mp h)) (fun h => kf (Int.not_le.mp (fun q => h ((zi_le hx hy).mpr q))))
theorem zv_if_le (hE : ze_ p c cc) {x off : Int} {tgt : Nat} (hdg : decode cc pc = .ok (.ifCond .le off, 3)) (ht : (pc : Int) + off = (tgt : Int)) (hx : zr_ x) (kt : x ≤ 0 → W p l e R s m args below meth c H locs cells slots Q (F0 m tgt ls (rest))) (kf : 0 < x → W p l e R s m args below meth c H locs cells slots Q (F0 m (pc + 3) ls (rest))) : W p l e R s m args below meth c H locs cells slots Q (F0 m pc ls (.int (zi_ x) :: rest)) := lv_if_le hE.1 hE.2 hdg ht (fun h => kt ((zi_le hx ⟨by decide, by decide⟩).mp h)) (fun h => kf (Int.not_le.mp (fun q => h ((zi_le hx ⟨by decide, by decide⟩).mpr q))))
theorem zv_iald (hE : ze_ p c cc) (hK : va_K D cl tys s) (hh : hp_ D cl A H0 ws H locs) (q0 t0 : Nat) {cA : ClassId} {n : Nat} {f : Int → Int} (ha : ws[q0]? = some (a, .inl (cA, n, .inl (zf_ f)))) (ht : tys[t0]? = some (cA, .int)) (hn : n < 2147483648) {z : Int} (hz : 0 ≤ z ∧ z < n) (hdg : decode cc pc = .ok (.iaload, 1)) (kk : W p l e R s m args below meth c H locs cells slots Q (F0 m (pc + 1) ls (.int (zi_ (f z)) :: rest))) : W p l e R s m args below meth c H locs cells slots Q (F0 m pc ls (.int (zi_ z) :: .ref a :: rest)) := va_iald hE.1 hE.2 hK hh.1 q0 t0 ha ht (zi_in hz hn) hdg (by rw [zf_at hz.1 (by omega)]; exact kk)
theorem zv_zald (hE : ze_ p c cc) (hK : va_K D cl tys s) (hh : hp_ D cl A H0 ws H locs) (q0 t0 : Nat) {cA : ClassId} {n : Nat} {f : Int → Int} (ha : ws[q0]? = some (a, .inl (cA, n, .inl (zf_ f)))) (ht : tys[t0]? = some (cA, .boolean)) (hn : n < 2147483648) {z : Int} (hz : 0 ≤ z ∧ z < n) (hdg : decode cc pc = .ok (.baload, 1)) (kk : W p l e R s m args below meth c H locs cells slots Q (F0 m (pc + 1) ls (.int (zi_ (f z)) :: rest))) : W p l e R s m args below meth c H locs cells slots Q (F0 m pc ls (.int (zi_ z) :: .ref a :: rest)) := va_zald hE.1 hE.2 hK hh.1 q0 t0 ha ht (zi_in hz hn) hdg (by rw [zf_at hz.1 (by omega)]; exact kk)
theorem zv_iast (hE : ze_ p c cc) (hK : va_K D cl tys s) (hh : hp_ D cl A H0 ws H locs) (q0 t0 : Nat) {cA : ClassId} {n : Nat} {f : Int → Int} (ha : ws[q0]? = some (a, .inl (cA, n, .inl (zf_ f)))) (ht : tys[t0]? = some (cA, .int)) (hn : n < 2147483648) {z v : Int} (hz : 0 ≤ z ∧ z < n) (hdg : decode cc pc = .ok (.iastore, 1)) {ws' : va_W} (hw : ws.set q0 (a, .inl (cA, n, .inl (zf_ (up_ f z v)))) = ws') (kk : ∀ (H : Heap) (locs : List Loc), hp_ D cl A H0 ws' H locs → W p l e R s m args below meth c H locs cells slots Q (F0 m (pc + 1) ls (rest))) : W p l e R s m args below meth c H locs cells slots Q (F0 m pc ls (.int (zi_ v) :: .int (zi_ z) :: .ref a :: rest)) := va_iast hE.1 hE.2 hK hh.1 hh.2.1 hh.2.2 q0 t0 ha ht (zi_in hz hn) hdg (fun H1 l1 h1 h2 h3 => kk H1 l1 (by rw [zf_up hz.1 (by omega), hw] at h1 h2; exact ⟨h1, h2, h3⟩))
theorem zv_zast (hE : ze_ p c cc) (hK : va_K D cl tys s) (hh : hp_ D cl A H0 ws H locs) (q0 t0 : Nat) {cA : ClassId} {n : Nat} {f : Int → Int} (ha : ws[q0]? = some (a, .inl (cA, n, .inl (zf_ f)))) (ht : tys[t0]? = some (cA, .boolean)) (hn : n < 2147483648) {z v : Int} (hz : 0 ≤ z ∧ z < n) (hv : zb_ v) (hdg : decode cc pc = .ok (.bastore, 1)) {ws' : va_W} (hw : ws.set q0 (a, .inl (cA, n, .inl (zf_ (up_ f z v)))) = ws') (kk : ∀ (H : Heap) (locs : List Loc), hp_ D cl A H0 ws' H locs → W p l e R s m args below meth c H locs cells slots Q (F0 m (pc + 1) ls (rest))) : W p l e R s m args below meth c H locs cells slots Q (F0 m pc ls (.int (zi_ v) :: .int (zi_ z) :: .ref a :: rest)) := va_zast hE.1 hE.2 hK hh.1 hh.2.1 hh.2.2 q0 t0 ha ht (zi_in hz hn) hdg (fun H1 l1 h1 h2 h3 => kk H1 l1 (by rw [zb_nar hv, zf_up hz.1 (by omega), hw] at h1 h2; exact ⟨h1, h2, h3⟩))
theorem ob_get (hE : ze_ p c cc) {own ref C : String} {T : u_T} {N ci index : Nat} {Ts : List Cond} (hts : ∀ w ∈ Ts, w.before args s = true) (hin : ∀ w ∈ u_ws C T N, w ∈ Ts) (hown : s.vm.findClass own = some m.cls) (hK : va_K D cl tys s) (hh : hp_ D cl A H0 ws H locs) (q0 : Nat) {fs : List Value} (he : ws[q0]? = some (a, .inr (ci, fs))) (hc : cl[ci]? = some (C, T, N)) (k : Nat) (hk : k < N) (hr : (T k).1 = ref) (hlink : Cond.fieldLink own index ref (T k).2.1 (T k).2.2.1 ∈ Ts) {v : Value} (hv : fs[k]? = some v) (hdg : decode cc pc = .ok (.getfield index, 3)) (kk : W p l e R s m args below meth c H locs cells slots Q (F0 m (pc + 3) ls (v :: rest))) : W p l e R s m args below meth c H locs cells slots Q (F0 m pc ls (.ref a :: rest)) := va_get (D := D) (ci := ci) (v := v) (C := C) (T := T) (N := N) hE.1 hE.2 hts hin hown hK hh.1 q0 he hc k hk (hts _ hlink) (fun _ h9 => by rw [← hr]; exact h9) hv hdg kk
theorem ob_put (hE : ze_ p c cc) {own ref C : String} {T : u_T} {N ci index : Nat} {Ts : List Cond} (hts : ∀ w ∈ Ts, w.before args s = true) (hin : ∀ w ∈ u_ws C T N, w ∈ Ts) {ty0 : Nat → FieldType} (hty : ∀ k, k < N → parseFieldDescriptor (T k).2.2.1 = some (ty0 k)) (hnm : ∀ a, a < N → ∀ b, b < N → a ≠ b → (T a).2.1 ≠ (T b).2.1) (hown : s.vm.findClass own = some m.cls) (hK : va_K D cl tys s) (hh : hp_ D cl A H0 ws H locs) (q0 : Nat) {fs : List Value} (he : ws[q0]? = some (a, .inr (ci, fs))) (hc : cl[ci]? = some (C, T, N)) (k : Nat) (hk : k < N) (hr : (T k).1 = ref) (hlink : Cond.fieldLink own index ref (T k).2.1 (T k).2.2.1 ∈ Ts) (hfin : (T k).2.2.2 = false) {x : Int} (hd : parseFieldDescriptor (T k).2.2.1 = some .int) (hl : k < fs.length) (hdg : decode cc pc = .ok (.putfield index, 3)) {ws' : va_W} (hw : ws.set q0 (a, .inr (ci, fs.set k (.int (zi_ x)))) = ws') (kk : ∀ (H : Heap) (locs : List Loc), hp_ D cl A H0 ws' H locs → W p l e R s m args below meth c H locs cells slots Q (F0 m (pc + 3) ls (rest))) : W p l e R s m args below meth c H locs cells slots Q (F0 m pc ls (.int (zi_ x) :: .ref a :: rest)) := va_put (D := D) (ci := ci) (v := .int (zi_ x)) (ty := .int) (C := C) (T := T) (N := N) hE.1 hE.2 hts hin ty0 hty hnm hown hK hh.1 hh.2.1 hh.2.2 q0 he hc k hk (hts _ hlink) (fun _ h9 => by rw [← hr]; exact h9) hfin hd rfl rfl hl hdg (fun H1 l1 h1 h2 h3 => kk H1 l1 (by rw [hw] at h1 h2; exact ⟨h1, h2, h3⟩))
end ZV
