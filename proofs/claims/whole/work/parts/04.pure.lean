/-- sums over 0 .. n-1 -/
def sg_ (g : Int → Int) : Nat → Int
  | 0 => 0
  | n + 1 => sg_ g n + g (n : Int)
theorem sg_congr {g h : Int → Int} : ∀ (n : Nat), (∀ j : Int, 0 ≤ j → j < n → g j = h j) → sg_ g n = sg_ h n
  | 0, _ => rfl
  | n + 1, H => by
    show sg_ g n + g n = sg_ h n + h n
    rw [sg_congr n (fun j h0 h1 => H j h0 (by omega)), H n (by omega) (by omega)]
theorem sg_up {g h : Int → Int} {i : Int} : ∀ (n : Nat), 0 ≤ i → i < n → (∀ j : Int, 0 ≤ j → j < n → j ≠ i → g j = h j) → sg_ g n = sg_ h n - h i + g i
  | 0, h0, h1, _ => by omega
  | n + 1, h0, h1, H => by
    show sg_ g n + g n = sg_ h n + h n - h i + g i
    by_cases hi : i = (n : Int)
    · subst hi
      rw [sg_congr n (fun j h0 h1 => H j h0 (by omega) (by omega))]
      omega
    · rw [sg_up n h0 (by omega) (fun j h0 h1 h2 => H j h0 (by omega) h2), H n (by omega) (by omega) (fun q => hi q.symm)]
      omega
theorem sg_nn {g : Int → Int} : ∀ (n : Nat), (∀ j : Int, 0 ≤ j → j < n → 0 ≤ g j) → 0 ≤ sg_ g n
  | 0, _ => Int.le_refl 0
  | n + 1, H => by
    show 0 ≤ sg_ g n + g n
    have h1 := sg_nn n (fun j h0 h1 => H j h0 (by omega))
    have h2 := H n (by omega) (by omega)
    omega
theorem sg_one {g : Int → Int} {i : Int} : ∀ (n : Nat), (∀ j : Int, 0 ≤ j → j < n → 0 ≤ g j) → 0 ≤ i → i < n → g i ≤ sg_ g n
  | 0, _, h0, h1 => by omega
  | n + 1, H, h0, h1 => by
    show g i ≤ sg_ g n + g n
    have h2 := H n (by omega) (by omega)
    by_cases hi : i = (n : Int)
    · subst hi
      have h1 := sg_nn n (fun j h0 h1 => H j h0 (by omega))
      omega
    · have h3 := sg_one n (fun j h0 h1 => H j h0 (by omega)) h0 (by omega : i < n)
      omega
theorem sg_le {g : Int → Int} {c : Int} : ∀ (n : Nat), (∀ j : Int, 0 ≤ j → j < n → g j ≤ c) → sg_ g n ≤ n * c
  | 0, _ => by simp [sg_]
  | n + 1, H => by
    show sg_ g n + g n ≤ _
    have h1 := sg_le n (fun j h0 h1 => H j h0 (by omega))
    have h2 := H n (by omega) (by omega)
    have h3 : ((n + 1 : Nat) : Int) * c = n * c + c := by rw [Int.natCast_add, Int.add_mul]; simp
    omega
theorem sg_all {g : Int → Int} : ∀ (n : Nat), (∀ j : Int, 0 ≤ j → j < n → g j = 1) → sg_ g n = n
  | 0, _ => rfl
  | n + 1, H => by
    show sg_ g n + g n = _
    rw [sg_all n (fun j h0 h1 => H j h0 (by omega)), H n (by omega) (by omega)]
    omega
/-- a sum over a stretch from a on -/
def st_ (g : Int → Int) (a : Int) : Nat → Int
  | 0 => 0
  | n + 1 => st_ g a n + g (a + (n : Int))
theorem st_congr {g h : Int → Int} {a : Int} : ∀ (n : Nat), (∀ j : Int, a ≤ j → j < a + n → g j = h j) → st_ g a n = st_ h a n
  | 0, _ => rfl
  | n + 1, H => by
    show st_ g a n + g (a + n) = st_ h a n + h (a + n)
    rw [st_congr n (fun j h0 h1 => H j h0 (by omega)), H (a + n) (by omega) (by omega)]
theorem st_first (g : Int → Int) (a : Int) : ∀ (n : Nat), st_ g a (n + 1) = g a + st_ g (a + 1) n
  | 0 => by simp [st_]
  | n + 1 => by
    show st_ g a (n + 1) + g (a + ((n + 1 : Nat) : Int)) = g a + (st_ g (a + 1) n + g (a + 1 + n))
    rw [st_first g a n, show a + ((n + 1 : Nat) : Int) = a + 1 + n by omega]
    omega
/-- how many of the places ahead of n stay, if those go of which g holds -/
noncomputable def rk_ (g : Int → Prop) : Nat → Int
  | 0 => 0
  | n + 1 => rk_ g n + @ite Int (g (n : Int)) (Classical.propDecidable _) 0 1
theorem rk_go {g : Int → Prop} {n : Nat} (h : g n) : rk_ g (n + 1) = rk_ g n := by
  show rk_ g n + @ite Int (g (n : Int)) (Classical.propDecidable _) 0 1 = _
  rw [if_pos h]; omega
theorem rk_stay {g : Int → Prop} {n : Nat} (h : ¬ g n) : rk_ g (n + 1) = rk_ g n + 1 := by
  show rk_ g n + @ite Int (g (n : Int)) (Classical.propDecidable _) 0 1 = _
  rw [if_neg h]
theorem rk_step (g : Int → Prop) (n : Nat) : rk_ g n ≤ rk_ g (n + 1) ∧ rk_ g (n + 1) ≤ rk_ g n + 1 := by
  by_cases h : g n
  · rw [rk_go h]; omega
  · rw [rk_stay h]; omega
theorem rk_mono {g : Int → Prop} {n : Nat} : ∀ (k : Nat), rk_ g n ≤ rk_ g (n + k) ∧ rk_ g (n + k) ≤ rk_ g n + k
  | 0 => by simp
  | k + 1 => by
    have h1 := rk_mono (g := g) (n := n) k
    have h2 := rk_step g (n + k)
    have h3 : n + (k + 1) = n + k + 1 := by omega
    rw [h3]
    omega
theorem rk_congr {g h : Int → Prop} : ∀ (n : Nat), (∀ j : Int, 0 ≤ j → j < n → (g j ↔ h j)) → rk_ g n = rk_ h n
  | 0, _ => rfl
  | n + 1, H => by
    have h1 := rk_congr n (fun j h0 h1 => H j h0 (by omega))
    have h2 := H n (by omega) (by omega)
    by_cases hg : g n
    · rw [rk_go hg, rk_go (h2.mp hg), h1]
    · rw [rk_stay hg, rk_stay (fun q => hg (h2.mpr q)), h1]
noncomputable def rz_ (g : Int → Prop) (z : Int) : Int := rk_ g z.toNat
theorem rz_0 (g : Int → Prop) : rz_ g 0 = 0 := rfl
theorem rz_go {g : Int → Prop} {z : Int} (h0 : 0 ≤ z) (h : g z) : rz_ g (z + 1) = rz_ g z := by
  unfold rz_
  rw [show (z + 1).toNat = z.toNat + 1 by omega]
  exact rk_go (by rw [Int.toNat_of_nonneg h0]; exact h)
theorem rz_stay {g : Int → Prop} {z : Int} (h0 : 0 ≤ z) (h : ¬ g z) : rz_ g (z + 1) = rz_ g z + 1 := by
  unfold rz_
  rw [show (z + 1).toNat = z.toNat + 1 by omega]
  exact rk_stay (by rw [Int.toNat_of_nonneg h0]; exact h)
theorem rz_mono (g : Int → Prop) {a b : Int} (h0 : 0 ≤ a) (h : a ≤ b) : rz_ g a ≤ rz_ g b ∧ rz_ g b ≤ rz_ g a + (b - a) := by
  unfold rz_
  have h1 := rk_mono (g := g) (n := a.toNat) (b.toNat - a.toNat)
  rw [show a.toNat + (b.toNat - a.toNat) = b.toNat by omega] at h1
  omega
theorem rz_nn (g : Int → Prop) {a : Int} (h0 : 0 ≤ a) : 0 ≤ rz_ g a ∧ rz_ g a ≤ a := by
  have h1 := rz_mono g (Int.le_refl 0) h0
  rw [rz_0] at h1
  omega
/-- a place that stays keeps its order to every other one -/
theorem rz_lt {g : Int → Prop} {a b : Int} (h0 : 0 ≤ a) (hb : 0 ≤ b) (h : ¬ g a) : rz_ g a < rz_ g b ↔ a < b := by
  constructor
  · intro h1
    apply Int.not_le.mp
    intro h2
    have := rz_mono g hb h2
    omega
  · intro h1
    have h2 := rz_stay h0 h
    have h3 := rz_mono g (show 0 ≤ a + 1 by omega) (show a + 1 ≤ b by omega)
    omega
theorem rz_congr {g h : Int → Prop} {z : Int} (H : ∀ j : Int, 0 ≤ j → j < z → (g j ↔ h j)) : rz_ g z = rz_ h z := rk_congr _ (fun j h0 h1 => H j h0 (by omega))
/-- every place ahead of the count is one that stayed -/
theorem rk_onto {g : Int → Prop} : ∀ (n : Nat) (k : Int), 0 ≤ k → k < rk_ g n → ∃ z : Int, 0 ≤ z ∧ z < n ∧ ¬ g z ∧ rz_ g z = k
  | 0, k, h0, h1 => by exact absurd h1 (by show ¬ k < 0; omega)
  | n + 1, k, h0, h1 => by
    by_cases hg : g n
    · rw [rk_go hg] at h1
      obtain ⟨z, a1, a2, a3, a4⟩ := rk_onto n k h0 h1
      exact ⟨z, a1, by omega, a3, a4⟩
    · rw [rk_stay hg] at h1
      by_cases hk : k < rk_ g n
      · obtain ⟨z, a1, a2, a3, a4⟩ := rk_onto n k h0 hk
        exact ⟨z, a1, by omega, a3, a4⟩
      · exact ⟨n, by omega, by omega, hg, by show rk_ g (n : Int).toNat = k; rw [Int.toNat_natCast]; omega⟩
theorem rz_onto {g : Int → Prop} {e k : Int} (he : 0 ≤ e) (h0 : 0 ≤ k) (h1 : k < rz_ g e) : ∃ z : Int, 0 ≤ z ∧ z < e ∧ ¬ g z ∧ rz_ g z = k := by
  obtain ⟨z, a1, a2, a3, a4⟩ := rk_onto e.toNat k h0 h1
  exact ⟨z, a1, by omega, a3, a4⟩
/-- the line, and where each interval's start and end stand in it -/
def pw_ (sa ea ln : Int → Int) (ev : Int) : Prop :=
  (0 ≤ ev ∧ ev ≤ 1200) ∧
  (∀ j : Int, 0 ≤ j → j < 600 → sa j = -1 ∨ (0 ≤ sa j ∧ sa j < ev ∧ ln (sa j) = 2 * j)) ∧
  (∀ j : Int, 0 ≤ j → j < 600 → sa j ≠ -1 → ea j = -1 ∨ (sa j < ea j ∧ ea j < ev ∧ ln (ea j) = 2 * j + 1)) ∧
  (∀ k : Int, 0 ≤ k → k < ev → 0 ≤ ln k ∧ ln k < 1200 ∧ (ln k % 2 = 0 → sa (ln k / 2) = k) ∧ (ln k % 2 = 1 → sa (ln k / 2) ≠ -1 ∧ ea (ln k / 2) = k))
/-- on the way of an insertion: what stood at p and behind it has gone one place on -/
def pu_ (sa ea ln : Int → Int) (ev p : Int) (sa1 ea1 ln1 : Int → Int) : Prop :=
  (∀ k : Int, p < k → k ≤ ev → ln1 k = ln (k - 1)) ∧ (∀ k : Int, k < p → ln1 k = ln k) ∧
  (∀ j : Int, 0 ≤ j → j < 600 → (p ≤ sa j → sa1 j = sa j + 1) ∧ (sa j < p → sa1 j = sa j)) ∧
  (∀ j : Int, 0 ≤ j → j < 600 → (sa j ≠ -1 → p ≤ ea j → ea1 j = ea j + 1) ∧ (sa j = -1 ∨ ea j < p → ea1 j = ea j))
theorem pu_0 {sa ea ln : Int → Int} {ev : Int} (h : pw_ sa ea ln ev) : pu_ sa ea ln ev ev sa ea ln := by
  obtain ⟨h1, h2, h3, h4⟩ := h
  refine ⟨fun k a b => by omega, fun k a => rfl, fun j a b => ⟨fun q => ?_, fun _ => rfl⟩, fun j a b => ⟨fun n q => ?_, fun _ => rfl⟩⟩
  · have := h2 j a b
    omega
  · have := h3 j a b n
    omega
theorem pu_even {sa ea ln : Int → Int} {ev p : Int} {sa1 ea1 ln1 : Int → Int} (h : pw_ sa ea ln ev) (hp : pu_ sa ea ln ev p sa1 ea1 ln1) (h0 : 0 < p) (h1 : p ≤ ev) (he : ln1 (p - 1) % 2 = 0) : pu_ sa ea ln ev (p - 1) (up_ sa1 (ln1 (p - 1) / 2) p) ea1 (up_ ln1 p (ln1 (p - 1))) := by
  obtain ⟨a1, a2, a3, a4⟩ := h
  obtain ⟨b1, b2, b3, b4⟩ := hp
  have e1 : ln1 (p - 1) = ln (p - 1) := b2 (p - 1) (by omega)
  rw [e1] at he ⊢
  obtain ⟨c1, c2, c3, -⟩ := a4 (p - 1) (by omega) (by omega)
  have c4 := c3 he
  have d1 : 0 ≤ ln (p - 1) / 2 ∧ ln (p - 1) / 2 < 600 := by omega
  refine ⟨fun k x y => ?_, fun k x => ?_, fun j x y => ?_, fun j x y => ?_⟩
  · by_cases hk : k = p
    · subst hk; rw [up_s]
    · rw [up_n hk]; exact b1 k (by omega) y
  · rw [up_n (by omega)]; exact b2 k (by omega)
  · by_cases hj : j = ln (p - 1) / 2
    · subst hj; rw [up_s]; omega
    · rw [up_n hj]
      have t1 := b3 j x y
      have t2 := a2 j x y
      have t3 : sa j ≠ p - 1 := fun q => by
        rcases t2 with t | ⟨t, t', t''⟩
        · omega
        · rw [q] at t''; omega
      exact ⟨fun q => t1.1 (by omega), fun q => t1.2 (by omega)⟩
  · have t1 := b4 j x y
    have t2 := a3 j x y
    refine ⟨fun n q => t1.1 n ?_, fun q => t1.2 (by omega)⟩
    rcases t2 n with t | ⟨t, t', t''⟩
    · omega
    · have t3 : ea j ≠ p - 1 := fun q => by rw [q] at t''; omega
      omega
theorem pu_odd {sa ea ln : Int → Int} {ev p : Int} {sa1 ea1 ln1 : Int → Int} (h : pw_ sa ea ln ev) (hp : pu_ sa ea ln ev p sa1 ea1 ln1) (h0 : 0 < p) (h1 : p ≤ ev) (he : ln1 (p - 1) % 2 = 1) : pu_ sa ea ln ev (p - 1) sa1 (up_ ea1 (ln1 (p - 1) / 2) p) (up_ ln1 p (ln1 (p - 1))) := by
  obtain ⟨a1, a2, a3, a4⟩ := h
  obtain ⟨b1, b2, b3, b4⟩ := hp
  have e1 : ln1 (p - 1) = ln (p - 1) := b2 (p - 1) (by omega)
  rw [e1] at he ⊢
  obtain ⟨c1, c2, -, c3⟩ := a4 (p - 1) (by omega) (by omega)
  obtain ⟨c4, c5⟩ := c3 he
  have d1 : 0 ≤ ln (p - 1) / 2 ∧ ln (p - 1) / 2 < 600 := by omega
  refine ⟨fun k x y => ?_, fun k x => ?_, fun j x y => ?_, fun j x y => ?_⟩
  · by_cases hk : k = p
    · subst hk; rw [up_s]
    · rw [up_n hk]; exact b1 k (by omega) y
  · rw [up_n (by omega)]; exact b2 k (by omega)
  · have t1 := b3 j x y
    have t2 := a2 j x y
    have t3 : sa j ≠ p - 1 := fun q => by
      rcases t2 with t | ⟨t, t', t''⟩
      · omega
      · rw [q] at t''; omega
    exact ⟨fun q => t1.1 (by omega), fun q => t1.2 (by omega)⟩
  · by_cases hj : j = ln (p - 1) / 2
    · subst hj; rw [up_s]; omega
    · rw [up_n hj]
      have t1 := b4 j x y
      have t2 := a3 j x y
      refine ⟨fun n q => t1.1 n ?_, fun q => t1.2 (by omega)⟩
      rcases t2 n with t | ⟨t, t', t''⟩
      · omega
      · have t3 : ea j ≠ p - 1 := fun q => by rw [q] at t''; omega
        omega
/-- intervals of which an event stands at a place from a on, ahead of p -/
def fg_ (ln : Int → Int) (a p j : Int) : Prop := ∃ k : Int, a ≤ k ∧ k < p ∧ ln k / 2 = j
theorem fg_0 {ln : Int → Int} {a j : Int} : ¬ fg_ ln a a j := fun ⟨k, h1, h2, _⟩ => by omega
theorem fg_s {ln : Int → Int} {a p j : Int} (h : a ≤ p) : fg_ ln a (p + 1) j ↔ fg_ ln a p j ∨ ln p / 2 = j := by
  constructor
  · intro ⟨k, h1, h2, h3⟩
    by_cases hk : k = p
    · subst hk; exact Or.inr h3
    · exact Or.inl ⟨k, h1, by omega, h3⟩
  · intro q
    rcases q with ⟨k, h1, h2, h3⟩ | q
    · exact ⟨k, h1, by omega, h3⟩
    · exact ⟨p, h, by omega, q⟩
def c1_ (sa : Int → Int) : Int → Int := fun j => if sa j = -1 then 0 else 1
def cw_ (sa f : Int → Int) : Int → Int := fun j => if sa j = -1 then 0 else f j
/-- the numbers that are kept: intervals, stale ones, all weights (K: the whole's own) -/
def ct_ (sa sm wt : Int → Int) (ni ns wa K : Int) : Prop := ni = sg_ (c1_ sa) 600 ∧ ns = sg_ (cw_ sa sm) 600 ∧ wa = K + sg_ (cw_ sa wt) 600
theorem ct_forget {sa sm wt : Int → Int} {ni ns wa K i : Int} (h : ct_ sa sm wt ni ns wa K) (h0 : 0 ≤ i) (h1 : i < 600) (hs : sa i ≠ -1) : ct_ (up_ sa i (-1)) sm wt (ni - 1) (ns - sm i) (wa - wt i) K := by
  obtain ⟨a1, a2, a3⟩ := h
  have e1 : c1_ (up_ sa i (-1)) i = 0 := by unfold c1_; rw [if_pos (up_s _ _ _)]
  have e2 : c1_ sa i = 1 := by unfold c1_; rw [if_neg hs]
  have e3 : ∀ f : Int → Int, cw_ (up_ sa i (-1)) f i = 0 := fun f => by unfold cw_; rw [if_pos (up_s _ _ _)]
  have e4 : ∀ f : Int → Int, cw_ sa f i = f i := fun f => by unfold cw_; rw [if_neg hs]
  have f1 := sg_up (g := c1_ (up_ sa i (-1))) (h := c1_ sa) (i := i) 600 h0 h1 (fun j _ _ hj => by unfold c1_; rw [up_n hj])
  have f2 : ∀ f : Int → Int, sg_ (cw_ (up_ sa i (-1)) f) 600 = sg_ (cw_ sa f) 600 - cw_ sa f i + cw_ (up_ sa i (-1)) f i := fun f => sg_up 600 h0 h1 (fun j _ _ hj => by unfold cw_; rw [up_n hj])
  have g2 := f2 sm
  have g3 := f2 wt
  rw [e3, e4] at g2 g3
  rw [e1, e2] at f1
  exact ⟨by omega, by omega, by omega⟩
/-- the first loop of an erasure: those of [a, p) are gone -/
def e1_ (sa ln : Int → Int) (a p : Int) (sa1 : Int → Int) : Prop := ∀ j : Int, 0 ≤ j → j < 600 → (fg_ ln a p j → sa1 j = -1) ∧ (¬ fg_ ln a p j → sa1 j = sa j)
theorem e1_0 {sa ln : Int → Int} {a : Int} : e1_ sa ln a a sa := fun j _ _ => ⟨fun h => absurd h fg_0, fun _ => rfl⟩
theorem e1_same {sa ln sa1 : Int → Int} {a p : Int} (h : e1_ sa ln a p sa1) (hp : a ≤ p) (hs : sa1 (ln p / 2) = -1) : e1_ sa ln a (p + 1) sa1 := fun j h0 h1 => by
  refine ⟨fun q => ?_, fun q => (h j h0 h1).2 (fun z => q ((fg_s hp).mpr (Or.inl z)))⟩
  rcases (fg_s hp).mp q with q | q
  · exact (h j h0 h1).1 q
  · rw [← q]; exact hs
theorem e1_put {sa ln sa1 : Int → Int} {a p : Int} (h : e1_ sa ln a p sa1) (hp : a ≤ p) : e1_ sa ln a (p + 1) (up_ sa1 (ln p / 2) (-1)) := fun j h0 h1 => by
  by_cases hj : j = ln p / 2
  · subst hj
    rw [up_s]
    exact ⟨fun _ => rfl, fun q => absurd ((fg_s hp).mpr (Or.inr rfl)) q⟩
  · rw [up_n hj]
    refine ⟨fun q => ?_, fun q => (h j h0 h1).2 (fun z => q ((fg_s hp).mpr (Or.inl z)))⟩
    rcases (fg_s hp).mp q with q | q
    · exact (h j h0 h1).1 q
    · exact absurd q.symm hj
/-- the places that go -/
abbrev gp_ (ln : Int → Int) (a b : Int) : Int → Prop := fun k => fg_ ln a b (ln k / 2)
/-- the second loop of an erasure, at place p -/
def e2_ (sa ea ln : Int → Int) (ev a b p : Int) (sa2 ea2 ln2 : Int → Int) : Prop :=
  (∀ k : Int, p ≤ k → k < ev → ln2 k = ln k) ∧ (∀ k : Int, 0 ≤ k → k < p → ¬ gp_ ln a b k → ln2 (rz_ (gp_ ln a b) k) = ln k) ∧
  (∀ j : Int, 0 ≤ j → j < 600 → (sa j = -1 ∨ fg_ ln a b j → sa2 j = -1) ∧ (sa j ≠ -1 → ¬ fg_ ln a b j → ((sa j < p → sa2 j = rz_ (gp_ ln a b) (sa j)) ∧ (p ≤ sa j → sa2 j = sa j)) ∧ (ea j = -1 → ea2 j = -1) ∧ (ea j ≠ -1 → (ea j < p → ea2 j = rz_ (gp_ ln a b) (ea j)) ∧ (p ≤ ea j → ea2 j = ea j))))
theorem e2_0 {sa ea ln sa1 : Int → Int} {ev a b : Int} (hw : pw_ sa ea ln ev) (h : e1_ sa ln a b sa1) : e2_ sa ea ln ev a b 0 sa1 ea ln := by
  obtain ⟨w1, w2, w3, w4⟩ := hw
  refine ⟨fun _ _ _ => rfl, fun k h0 h1 => by omega, fun j h0 h1 => ⟨fun q => ?_, fun n q => ?_⟩⟩
  · obtain ⟨t1, t2⟩ := h j h0 h1
    by_cases hf : fg_ ln a b j
    · exact t1 hf
    · rcases q with q | q
      · rw [t2 hf]; exact q
      · exact absurd q hf
  · have t2 := (h j h0 h1).2 q
    have s1 := w2 j h0 h1
    have s2 := w3 j h0 h1 n
    exact ⟨⟨fun _ => by omega, fun _ => t2⟩, fun z => z, fun z => ⟨fun _ => by omega, fun _ => rfl⟩⟩
theorem e2_there {sa ea ln sa2 ea2 ln2 : Int → Int} {ev a b p : Int} (hw : pw_ sa ea ln ev) (h : e2_ sa ea ln ev a b p sa2 ea2 ln2) (h0 : 0 ≤ p) (h1 : p < ev) : sa2 (ln p / 2) ≠ -1 ↔ ¬ gp_ ln a b p := by
  obtain ⟨w1, w2, w3, w4⟩ := hw
  obtain ⟨b1, b2, b3⟩ := h
  obtain ⟨c1, c2, c3, c4⟩ := w4 p h0 h1
  have d1 : 0 ≤ ln p / 2 := by omega
  have d2 : ln p / 2 < 600 := by omega
  obtain ⟨t1, t2⟩ := b3 (ln p / 2) d1 d2
  have hs : sa (ln p / 2) ≠ -1 := by
    by_cases he : ln p % 2 = 0
    · have := c3 he; omega
    · exact (c4 (by omega)).1
  constructor
  · intro q z
    exact q (t1 (Or.inr z))
  · intro q
    obtain ⟨⟨u1, u2⟩, -⟩ := t2 hs q
    have s1 := w2 _ d1 d2
    by_cases hp : sa (ln p / 2) < p
    · have := rz_nn (gp_ ln a b) (show 0 ≤ sa (ln p / 2) by omega)
      rw [u1 hp]; omega
    · rw [u2 (by omega)]; exact hs
theorem e2_skip {sa ea ln sa2 ea2 ln2 : Int → Int} {ev a b p : Int} (hw : pw_ sa ea ln ev) (h : e2_ sa ea ln ev a b p sa2 ea2 ln2) (h0 : 0 ≤ p) (h1 : p < ev) (hg : gp_ ln a b p) : e2_ sa ea ln ev a b (p + 1) sa2 ea2 ln2 ∧ rz_ (gp_ ln a b) (p + 1) = rz_ (gp_ ln a b) p := by
  obtain ⟨w1, w2, w3, w4⟩ := hw
  obtain ⟨b1, b2, b3⟩ := h
  refine ⟨⟨fun k x y => b1 k (by omega) y, fun k x y z => ?_, fun j x y => ⟨(b3 j x y).1, fun n q => ?_⟩⟩, rz_go h0 hg⟩
  · by_cases hk : k = p
    · subst hk; exact absurd hg z
    · exact b2 k x (by omega) z
  · obtain ⟨⟨u1, u2⟩, u3, u4⟩ := (b3 j x y).2 n q
    have s1 := w2 j x y
    have s2 := w3 j x y n
    have n1 : sa j ≠ p := fun z => by
      rcases s1 with t | ⟨t, t', t''⟩
      · omega
      · rw [z] at t''
        have hg' : fg_ ln a b (ln p / 2) := hg
        rw [show ln p / 2 = j by omega] at hg'
        exact q hg'
    refine ⟨⟨fun z => u1 (by omega), fun z => u2 (by omega)⟩, u3, fun z => ?_⟩
    have n2 : ea j ≠ p := fun z' => by
      rcases s2 with t | ⟨t, t', t''⟩
      · omega
      · rw [z'] at t''
        have hg' : fg_ ln a b (ln p / 2) := hg
        rw [show ln p / 2 = j by omega] at hg'
        exact q hg'
    exact ⟨fun z' => (u4 z).1 (by omega), fun z' => (u4 z).2 (by omega)⟩
theorem e2_keep {sa ea ln sa2 ea2 ln2 : Int → Int} {ev a b p : Int} (hw : pw_ sa ea ln ev) (h : e2_ sa ea ln ev a b p sa2 ea2 ln2) (h0 : 0 ≤ p) (h1 : p < ev) (hg : ¬ gp_ ln a b p) :
    (ln p % 2 = 0 → e2_ sa ea ln ev a b (p + 1) (up_ sa2 (ln p / 2) (rz_ (gp_ ln a b) p)) ea2 (up_ ln2 (rz_ (gp_ ln a b) p) (ln p))) ∧ (ln p % 2 = 1 → e2_ sa ea ln ev a b (p + 1) sa2 (up_ ea2 (ln p / 2) (rz_ (gp_ ln a b) p)) (up_ ln2 (rz_ (gp_ ln a b) p) (ln p))) ∧ rz_ (gp_ ln a b) (p + 1) = rz_ (gp_ ln a b) p + 1 := by
  obtain ⟨w1, w2, w3, w4⟩ := hw
  obtain ⟨b1, b2, b3⟩ := h
  obtain ⟨c1, c2, c3, c4⟩ := w4 p h0 h1
  have r0 := rz_nn (gp_ ln a b) h0
  have L1 : ∀ k : Int, p + 1 ≤ k → k < ev → up_ ln2 (rz_ (gp_ ln a b) p) (ln p) k = ln k := fun k x y => by
    rw [up_n (by omega)]; exact b1 k (by omega) y
  have L2 : ∀ k : Int, 0 ≤ k → k < p + 1 → ¬ gp_ ln a b k → up_ ln2 (rz_ (gp_ ln a b) p) (ln p) (rz_ (gp_ ln a b) k) = ln k := fun k x y z => by
    by_cases hk : k = p
    · subst hk; rw [up_s]
    · have := (rz_lt x h0 z).mpr (show k < p by omega)
      rw [up_n (by omega)]; exact b2 k x (by omega) z
  refine ⟨fun he => ⟨L1, L2, fun j x y => ?_⟩, fun he => ⟨L1, L2, fun j x y => ?_⟩, rz_stay h0 hg⟩
  · have c5 := c3 he
    by_cases hj : j = ln p / 2
    · subst hj
      obtain ⟨t1, t2⟩ := b3 _ x y
      have hg' : ¬ fg_ ln a b (ln p / 2) := hg
      refine ⟨fun q => ?_, fun n q => ?_⟩
      · rcases q with q | q
        · omega
        · exact absurd q hg'
      · obtain ⟨-, u3, u4⟩ := t2 n q
        have s2 := w3 _ x y n
        rw [up_s]
        refine ⟨⟨fun _ => by rw [c5], fun z => by omega⟩, u3, fun z => ⟨fun z' => (u4 z).1 (by omega), fun z' => (u4 z).2 (by omega)⟩⟩
    · rw [up_n hj]
      obtain ⟨t1, t2⟩ := b3 _ x y
      refine ⟨t1, fun n q => ?_⟩
      obtain ⟨⟨u1, u2⟩, u3, u4⟩ := t2 n q
      have s1 := w2 j x y
      have s2 := w3 j x y n
      have n1 : sa j ≠ p := fun z => by
        rcases s1 with t | ⟨t, t', t''⟩
        · omega
        · rw [z] at t''; omega
      refine ⟨⟨fun z => u1 (by omega), fun z => u2 (by omega)⟩, u3, fun z => ?_⟩
      have n2 : ea j ≠ p := fun z' => by
        rcases s2 with t | ⟨t, t', t''⟩
        · omega
        · rw [z'] at t''; omega
      exact ⟨fun z' => (u4 z).1 (by omega), fun z' => (u4 z).2 (by omega)⟩
  · obtain ⟨c5, c6⟩ := c4 he
    obtain ⟨t1, t2⟩ := b3 _ x y
    refine ⟨t1, fun n q => ?_⟩
    obtain ⟨⟨u1, u2⟩, u3, u4⟩ := t2 n q
    have s1 := w2 j x y
    have s2 := w3 j x y n
    have n1 : sa j ≠ p := fun z => by
      rcases s1 with t | ⟨t, t', t''⟩
      · omega
      · rw [z] at t''; omega
    refine ⟨⟨fun z => u1 (by omega), fun z => u2 (by omega)⟩, ?_⟩
    by_cases hj : j = ln p / 2
    · subst hj
      rw [up_s]
      exact ⟨fun z => by omega, fun z => ⟨fun _ => by rw [c6], fun z' => by omega⟩⟩
    · rw [up_n hj]
      have n2 : ea j ≠ p := fun z' => by
        rcases s2 with t | ⟨t, t', t''⟩
        · omega
        · rw [z'] at t''; omega
      exact ⟨u3, fun z => ⟨fun z' => (u4 z).1 (by omega), fun z' => (u4 z).2 (by omega)⟩⟩
/-- behind an erasure of the places [a, b) -/
def er_ (sa ea ln : Int → Int) (ev a b : Int) (sa2 ea2 ln2 : Int → Int) : Prop :=
  (∀ k : Int, 0 ≤ k → k < ev → ¬ gp_ ln a b k → ln2 (rz_ (gp_ ln a b) k) = ln k) ∧
  (∀ j : Int, 0 ≤ j → j < 600 → (sa j = -1 ∨ fg_ ln a b j → sa2 j = -1) ∧ (sa j ≠ -1 → ¬ fg_ ln a b j → sa2 j = rz_ (gp_ ln a b) (sa j) ∧ (ea j = -1 → ea2 j = -1) ∧ (ea j ≠ -1 → ea2 j = rz_ (gp_ ln a b) (ea j))))
theorem er_of {sa ea ln sa2 ea2 ln2 : Int → Int} {ev a b : Int} (hw : pw_ sa ea ln ev) (h : e2_ sa ea ln ev a b ev sa2 ea2 ln2) : er_ sa ea ln ev a b sa2 ea2 ln2 := by
  obtain ⟨w1, w2, w3, w4⟩ := hw
  obtain ⟨b1, b2, b3⟩ := h
  refine ⟨b2, fun j x y => ⟨(b3 j x y).1, fun n q => ?_⟩⟩
  obtain ⟨⟨u1, u2⟩, u3, u4⟩ := (b3 j x y).2 n q
  have s1 := w2 j x y
  have s2 := w3 j x y n
  exact ⟨u1 (by omega), u3, fun z => (u4 z).1 (by omega)⟩
theorem er_pw {sa ea ln sa2 ea2 ln2 : Int → Int} {ev a b : Int} (hw : pw_ sa ea ln ev) (h : er_ sa ea ln ev a b sa2 ea2 ln2) : pw_ sa2 ea2 ln2 (rz_ (gp_ ln a b) ev) := by
  obtain ⟨w1, w2, w3, w4⟩ := hw
  obtain ⟨b2, b3⟩ := h
  have r0 := rz_nn (gp_ ln a b) w1.1
  refine ⟨by omega, fun j x y => ?_, fun j x y n => ?_, fun k x y => ?_⟩
  · by_cases hs : sa j = -1 ∨ fg_ ln a b j
    · exact Or.inl ((b3 j x y).1 hs)
    · have hs1 : sa j ≠ -1 := fun z => hs (Or.inl z)
      have hs2 : ¬ fg_ ln a b j := fun z => hs (Or.inr z)
      obtain ⟨u1, -⟩ := (b3 j x y).2 hs1 hs2
      rcases w2 j x y with t | ⟨t, t', t''⟩
      · exact absurd t hs1
      · have hk : ¬ gp_ ln a b (sa j) := by
          show ¬ fg_ ln a b (ln (sa j) / 2)
          rw [t'', show 2 * j / 2 = j by omega]; exact hs2
        have q1 := rz_nn (gp_ ln a b) t
        have q2 := (rz_lt t w1.1 hk).mpr t'
        refine Or.inr ⟨by omega, by omega, ?_⟩
        rw [u1, b2 _ t t' hk]; exact t''
  · by_cases hs : sa j = -1 ∨ fg_ ln a b j
    · exact absurd ((b3 j x y).1 hs) n
    · have hs1 : sa j ≠ -1 := fun z => hs (Or.inl z)
      have hs2 : ¬ fg_ ln a b j := fun z => hs (Or.inr z)
      obtain ⟨u1, u2, u3⟩ := (b3 j x y).2 hs1 hs2
      rcases w2 j x y with t | ⟨t, t', t''⟩
      · exact absurd t hs1
      rcases w3 j x y hs1 with v | ⟨v, v', v''⟩
      · exact Or.inl (u2 v)
      · have hk : ¬ gp_ ln a b (sa j) := by
          show ¬ fg_ ln a b (ln (sa j) / 2)
          rw [t'', show 2 * j / 2 = j by omega]; exact hs2
        have hk' : ¬ gp_ ln a b (ea j) := by
          show ¬ fg_ ln a b (ln (ea j) / 2)
          rw [v'', show (2 * j + 1) / 2 = j by omega]; exact hs2
        have q1 := (rz_lt t (show 0 ≤ ea j by omega) hk).mpr v
        have q2 := (rz_lt (show 0 ≤ ea j by omega) w1.1 hk').mpr v'
        have e3 := u3 (by omega)
        refine Or.inr ⟨by omega, by omega, ?_⟩
        rw [e3, b2 _ (by omega) v' hk']; exact v''
  · obtain ⟨z, z0, z1, z2, z3⟩ := rz_onto w1.1 x y
    obtain ⟨c1, c2, c3, c4⟩ := w4 z z0 z1
    have d1 : 0 ≤ ln z / 2 := by omega
    have d2 : ln z / 2 < 600 := by omega
    have e1 : ln2 k = ln z := by rw [← z3]; exact b2 z z0 z1 z2
    rw [e1]
    refine ⟨c1, c2, fun he => ?_, fun he => ?_⟩
    · have c5 := c3 he
      rw [((b3 _ d1 d2).2 (by omega) z2).1, c5]; exact z3
    · obtain ⟨c5, c6⟩ := c4 he
      obtain ⟨u1, u2, u3⟩ := (b3 _ d1 d2).2 c5 z2
      have s1 := w2 _ d1 d2
      have q1 := rz_nn (gp_ ln a b) (show 0 ≤ sa (ln z / 2) by omega)
      exact ⟨by omega, by rw [u3 (by omega), c6]; exact z3⟩
/-- the reference's insertion, on its way -/
def mp_ (ml : Int → Int) (ev p : Int) (ml1 : Int → Int) : Prop := (∀ k : Int, p < k → k ≤ ev → ml1 k = ml (k - 1)) ∧ (∀ k : Int, k < p → ml1 k = ml k)
theorem mp_0 {ml : Int → Int} {ev : Int} : mp_ ml ev ev ml := ⟨fun k a b => by omega, fun k a => rfl⟩
theorem mp_s {ml ml1 : Int → Int} {ev p : Int} (h : mp_ ml ev p ml1) (h0 : 0 < p) : mp_ ml ev (p - 1) (up_ ml1 p (ml1 (p - 1))) := by
  obtain ⟨b1, b2⟩ := h
  refine ⟨fun k x y => ?_, fun k x => ?_⟩
  · by_cases hk : k = p
    · subst hk; rw [up_s]; exact b2 _ (by omega)
    · rw [up_n hk]; exact b1 k (by omega) y
  · rw [up_n (by omega)]; exact b2 k (by omega)
/-- the marks of an erasure, on their way -/
def mg_ (ml : Int → Int) (a p : Int) (g : Int → Int) : Prop := ∀ j : Int, 0 ≤ j → j < 600 → (fg_ ml a p j → g j = 1) ∧ (¬ fg_ ml a p j → g j = 0)
theorem mg_0 {ml g : Int → Int} {a : Int} (h : ∀ j : Int, 0 ≤ j → j < 600 → g j = 0) : mg_ ml a a g := fun j h0 h1 => ⟨fun q => absurd q fg_0, fun _ => h j h0 h1⟩
theorem mg_s {ml g : Int → Int} {a p : Int} (h : mg_ ml a p g) (hp : a ≤ p) : mg_ ml a (p + 1) (up_ g (ml p / 2) 1) := fun j h0 h1 => by
  by_cases hj : j = ml p / 2
  · subst hj
    rw [up_s]
    exact ⟨fun _ => rfl, fun q => absurd ((fg_s hp).mpr (Or.inr rfl)) q⟩
  · rw [up_n hj]
    refine ⟨fun q => ?_, fun q => (h j h0 h1).2 (fun z => q ((fg_s hp).mpr (Or.inl z)))⟩
    rcases (fg_s hp).mp q with q | q
    · exact (h j h0 h1).1 q
    · exact absurd q.symm hj
/-- the reference's third loop of an erasure, at place p -/
def m3_ (ml : Int → Int) (ev cu a b p : Int) (ml2 : Int → Int) (cu2 : Int) : Prop :=
  (∀ k : Int, p ≤ k → k < ev → ml2 k = ml k) ∧ (∀ k : Int, 0 ≤ k → k < p → ¬ gp_ ml a b k → ml2 (rz_ (gp_ ml a b) k) = ml k) ∧ (p ≤ cu → cu2 = cu - p + rz_ (gp_ ml a b) p) ∧ (cu ≤ p → cu2 = rz_ (gp_ ml a b) cu)
theorem m3_0 {ml : Int → Int} {ev cu a b : Int} (h : 0 ≤ cu) : m3_ ml ev cu a b 0 ml cu :=
  ⟨fun _ _ _ => rfl, fun k x y => by omega, fun _ => by rw [rz_0]; omega, fun x => by rw [show cu = 0 by omega, rz_0]⟩
theorem m3_go {ml ml2 : Int → Int} {ev cu a b p cu2 : Int} (h : m3_ ml ev cu a b p ml2 cu2) (h0 : 0 ≤ p) (hc : 0 ≤ cu) (hg : gp_ ml a b p) : m3_ ml ev cu a b (p + 1) ml2 (if p < cu then cu2 - 1 else cu2) ∧ rz_ (gp_ ml a b) (p + 1) = rz_ (gp_ ml a b) p := by
  obtain ⟨b1, b2, b3, b4⟩ := h
  have r := rz_go h0 hg
  refine ⟨⟨fun k x y => b1 k (by omega) y, fun k x y z => ?_, fun x => ?_, fun x => ?_⟩, r⟩
  · by_cases hk : k = p
    · subst hk; exact absurd hg z
    · exact b2 k x (by omega) z
  · have := b3 (by omega)
    rw [if_pos (by omega)]; omega
  · by_cases hq : p < cu
    · have e : cu = p + 1 := by omega
      have := b3 (by omega)
      rw [if_pos hq, e, r]; omega
    · rw [if_neg hq]; exact b4 (by omega)
theorem m3_keep {ml ml2 : Int → Int} {ev cu a b p cu2 : Int} (h : m3_ ml ev cu a b p ml2 cu2) (h0 : 0 ≤ p) (h1 : p < ev) (hc : 0 ≤ cu) (hg : ¬ gp_ ml a b p) : m3_ ml ev cu a b (p + 1) (up_ ml2 (rz_ (gp_ ml a b) p) (ml2 p)) cu2 ∧ rz_ (gp_ ml a b) (p + 1) = rz_ (gp_ ml a b) p + 1 := by
  obtain ⟨b1, b2, b3, b4⟩ := h
  have r := rz_stay h0 hg
  have r0 := rz_nn (gp_ ml a b) h0
  have e0 := b1 p (by omega) h1
  refine ⟨⟨fun k x y => ?_, fun k x y z => ?_, fun x => ?_, fun x => ?_⟩, r⟩
  · rw [up_n (by omega)]; exact b1 k (by omega) y
  · by_cases hk : k = p
    · subst hk; rw [up_s]; exact e0
    · have := (rz_lt x h0 z).mpr (show k < p by omega)
      rw [up_n (by omega)]; exact b2 k x (by omega) z
  · have := b3 (by omega)
    omega
  · by_cases hq : cu = p + 1
    · have := b3 (by omega)
      rw [hq, r]; omega
    · exact b4 (by omega)
theorem pw_zr {sa ea ln : Int → Int} {ev j : Int} (hw : pw_ sa ea ln ev) (h0 : 0 ≤ j) (h1 : j < 600) : zr_ (sa j) := by
  have w1 := hw.1
  have w2 := hw.2.1 j h0 h1
  exact ⟨by omega, by omega⟩
theorem e1_zr {sa ea ln sa1 : Int → Int} {ev a p j : Int} (hw : pw_ sa ea ln ev) (h : e1_ sa ln a p sa1) (h0 : 0 ≤ j) (h1 : j < 600) : zr_ (sa1 j) := by
  have t := pw_zr hw h0 h1
  by_cases hf : fg_ ln a p j
  · rw [(h j h0 h1).1 hf]; exact ⟨by omega, by omega⟩
  · rw [(h j h0 h1).2 hf]; exact t
theorem e2_zr {sa ea ln sa2 ea2 ln2 : Int → Int} {ev a b p j : Int} (hw : pw_ sa ea ln ev) (h : e2_ sa ea ln ev a b p sa2 ea2 ln2) (h0 : 0 ≤ j) (h1 : j < 600) : zr_ (sa2 j) := by
  have w1 := hw.1
  have w2 := hw.2.1 j h0 h1
  obtain ⟨b1, b2, b3⟩ := h
  by_cases hf : sa j = -1 ∨ fg_ ln a b j
  · rw [(b3 j h0 h1).1 hf]; exact ⟨by omega, by omega⟩
  · obtain ⟨⟨u1, u2⟩, -⟩ := (b3 j h0 h1).2 (fun z => hf (Or.inl z)) (fun z => hf (Or.inr z))
    have hs : sa j ≠ -1 := fun z => hf (Or.inl z)
    by_cases hp : sa j < p
    · have := rz_nn (gp_ ln a b) (show 0 ≤ sa j by omega)
      rw [u1 hp]; exact ⟨by omega, by omega⟩
    · rw [u2 (by omega)]; exact ⟨by omega, by omega⟩
theorem ct_same {sa sa' sm wt : Int → Int} {ni ns wa K : Int} (h : ct_ sa sm wt ni ns wa K) (hs : ∀ j : Int, 0 ≤ j → j < 600 → (sa j = -1 ↔ sa' j = -1)) : ct_ sa' sm wt ni ns wa K := by
  obtain ⟨a1, a2, a3⟩ := h
  have e : ∀ f : Int → Int, sg_ (cw_ sa f) 600 = sg_ (cw_ sa' f) 600 := fun f => sg_congr 600 (fun j h0 h1 => by
    unfold cw_
    by_cases hq : sa j = -1
    · rw [if_pos hq, if_pos ((hs j h0 h1).mp hq)]
    · rw [if_neg hq, if_neg (fun z => hq ((hs j h0 h1).mpr z))])
  have e1 : sg_ (c1_ sa) 600 = sg_ (c1_ sa') 600 := sg_congr 600 (fun j h0 h1 => by
    unfold c1_
    by_cases hq : sa j = -1
    · rw [if_pos hq, if_pos ((hs j h0 h1).mp hq)]
    · rw [if_neg hq, if_neg (fun z => hq ((hs j h0 h1).mpr z))])
  exact ⟨by rw [← e1]; exact a1, by rw [← e]; exact a2, by rw [← e]; exact a3⟩
theorem er_ct {sa ea ln sa1 sa2 ea2 ln2 sm wt : Int → Int} {ev a b ni ns wa K : Int} (hw : pw_ sa ea ln ev) (h1 : e1_ sa ln a b sa1) (hc : ct_ sa1 sm wt ni ns wa K) (h : er_ sa ea ln ev a b sa2 ea2 ln2) : ct_ sa2 sm wt ni ns wa K := by
  refine ct_same hc (fun j x y => ?_)
  obtain ⟨b2, b3⟩ := h
  by_cases hf : fg_ ln a b j
  · rw [(h1 j x y).1 hf, (b3 j x y).1 (Or.inr hf)]
  · rw [(h1 j x y).2 hf]
    by_cases hs : sa j = -1
    · rw [hs, (b3 j x y).1 (Or.inl hs)]
    · have w2 := hw.2.1 j x y
      have := rz_nn (gp_ ln a b) (show 0 ≤ sa j by omega)
      rw [((b3 j x y).2 hs hf).1]
      omega
/-- how far the events ahead go; where an interval's events end -/
def lm_ (fi ea : Int → Int) (ev fr : Int) : Int := if fi (fr - 1) = -1 then ev else ea (fi (fr - 1))
def ut_ (ea : Int → Int) (ev i : Int) : Int := if ea i = -1 then ev else ea i
/-- the first place of [a, b) of a kind, and what is read there -/
def fs_ (P : Int → Prop) (v : Int → Int) (a b z : Int) : Prop := (z = -1 ∧ ∀ k : Int, a ≤ k → k < b → ¬ P k) ∨ (∃ k : Int, a ≤ k ∧ k < b ∧ P k ∧ z = v k ∧ ∀ j : Int, a ≤ j → j < k → ¬ P j)
/-- the last one -/
def fl_ (P : Int → Prop) (v : Int → Int) (a b z : Int) : Prop := (z = -1 ∧ ∀ k : Int, a ≤ k → k < b → ¬ P k) ∨ (∃ k : Int, a ≤ k ∧ k < b ∧ P k ∧ z = v k ∧ ∀ j : Int, k < j → j < b → ¬ P j)
def we_ (ln wt : Int → Int) : Int → Int := fun k => if ln k % 2 = 0 then wt (ln k / 2) else 0
theorem st_go {g : Int → Int} {a p : Int} (h : a ≤ p) : st_ g a (p + 1 - a).toNat = st_ g a (p - a).toNat + g p := by
  rw [show (p + 1 - a).toNat = (p - a).toNat + 1 by omega]
  show st_ g a (p - a).toNat + g (a + ((p - a).toNat : Int)) = _
  rw [show a + ((p - a).toNat : Int) = p by omega]
