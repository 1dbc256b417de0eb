/-! under: which change is best; tens tell it -/
def keyU (v s p : Int) : Int := (v * 100000 + s) * 1000 + p
def mnU (x y : Int) : Int := if x = -1 ∨ y < x then y else x
def MinOf (S : Int → Prop) (x : Int) : Prop := (x = -1 ∧ ∀ y, ¬ S y) ∨ (0 ≤ x ∧ S x ∧ ∀ y, S y → x ≤ y)
theorem MinOf.cg {S T : Int → Prop} {x : Int} (h : MinOf S x) (e : ∀ z, S z ↔ T z) : MinOf T x := by
  rcases h with ⟨h1, h2⟩ | ⟨h1, h2, h3⟩
  · exact Or.inl ⟨h1, fun y hy => h2 y ((e y).mpr hy)⟩
  · exact Or.inr ⟨h1, (e x).mp h2, fun y hy => h3 y ((e y).mpr hy)⟩
theorem MinOf.step {S : Int → Prop} {x y : Int} (h : MinOf S x) (hy : 0 ≤ y) : MinOf (fun z => S z ∨ z = y) (mnU x y) := by
  unfold mnU
  rcases h with ⟨h1, h2⟩ | ⟨h1, h2, h3⟩
  · rw [if_pos (Or.inl h1)]
    refine Or.inr ⟨hy, Or.inr rfl, fun z hz => ?_⟩
    rcases hz with hz | hz
    · exact absurd hz (h2 z)
    · rw [hz]; exact Int.le_refl _
  · by_cases c : y < x
    · rw [if_pos (Or.inr c)]
      refine Or.inr ⟨hy, Or.inr rfl, fun z hz => ?_⟩
      rcases hz with hz | hz
      · exact Int.le_trans (Int.le_of_lt c) (h3 z hz)
      · rw [hz]; exact Int.le_refl _
    · rw [if_neg (by omega)]
      refine Or.inr ⟨h1, Or.inl h2, fun z hz => ?_⟩
      rcases hz with hz | hz
      · exact h3 z hz
      · rw [hz]; exact Int.not_lt.mp c
theorem MinOf.uniq {S T : Int → Prop} {x y : Int} (h : MinOf S x) (h' : MinOf T y) (h1 : ∀ z, T z → S z) (h2 : ∀ z, S z → ∃ w, T w ∧ w ≤ z) : x = y := by
  rcases h with ⟨a1, a2⟩ | ⟨a1, a2, a3⟩
  · rcases h' with ⟨b1, b2⟩ | ⟨b1, b2, b3⟩
    · rw [a1, b1]
    · exact absurd (h1 y b2) (a2 y)
  · rcases h' with ⟨b1, b2⟩ | ⟨b1, b2, b3⟩
    · obtain ⟨w, w1, -⟩ := h2 x a2
      exact absurd w1 (b2 w)
    · obtain ⟨w, w1, w2⟩ := h2 x a2
      have := b3 w w1
      have := a3 y (h1 y b2)
      omega
def swp (V : Hp) (a b : Nat) : Hp := hs (hs V 107 a (V 107 b)) 107 b (V 107 a)
theorem swp_107 {V : Hp} {a b : Nat} (hab : a ≠ b) (q : Nat) : swp V a b 107 q = if q = a then V 107 b else if q = b then V 107 a else V 107 q := by
  unfold swp
  rw [hs_at, hs_at]
  simp only [Int.ofNat_inj]
  by_cases h1 : q = a
  · subst h1; rw [if_pos rfl, if_neg hab, if_pos rfl]
  · rw [if_neg h1, if_neg h1]
theorem swp_c {V : Hp} {a b : Nat} {c : Int} (h : c ≠ 107) : swp V a b c = V c := by unfold swp; rw [hs_ne h, hs_ne h]
theorem swp_vw {V H : Hp} (hH : Vw V H) {a b : Nat} : Vw (swp V a b) (swp H a b) := by
  unfold swp
  rw [show H 107 = V 107 from funext fun j => hH 107 j rfl]
  exact vw_both (vw_both hH)
theorem swp_back {H : Hp} {a b : Nat} (hab : a ≠ b) : hs (hs (swp H a b) 107 a (swp H a b 107 b)) 107 b (swp H a b 107 a) = H := by
  have e1 := swp_107 (V := H) hab b
  have e2 := swp_107 (V := H) hab a
  rw [if_neg (fun z => hab z.symm), if_pos rfl] at e1
  rw [if_pos rfl] at e2
  rw [e1, e2]
  funext x y
  rw [hs_app]
  by_cases h1 : x = 107 ∧ y = b
  · rw [if_pos h1, h1.1, h1.2]
  · rw [if_neg h1, hs_app]
    by_cases h2 : x = 107 ∧ y = a
    · rw [if_pos h2, h2.1, h2.2]
    · rw [if_neg h2]
      unfold swp
      rw [hs2 h1, hs2 h2]
theorem swp_inm {V : Hp} (hM : Inm V) {a b : Nat} (ha : a < nS V) (hb : b < nS V) (hab : a ≠ b) : Inm (swp V a b) := by
  have hn := hM.boat.s
  have e91 : swp V a b 91 = V 91 := swp_c (by decide)
  have e71 : swp V a b 71 = V 71 := swp_c (by decide)
  have eS : nS (swp V a b) = nS V := by unfold nS nN; rw [e91]
  have eR : nR (swp V a b) = nR V := by unfold nR nN; rw [e91]
  have eD : sdV (swp V a b) = sdV V := by unfold sdV; rw [e71]
  have hs : ptL.all (fun q => decide (q.1 ≠ 107)) = true := by decide +kernel
  have hm := hM.crew
  refine ⟨fun q hq => ?_, hM.boat.cg (fun c h1 h2 => swp_c (by omega)) (by rw [e71]), by rw [e71]; exact hm.1, by rw [e71, eS, eD]; exact hm.2.1, fun k hk => ?_, fun k h1 hk => ?_, by rw [e71]; exact hm.2.2.2.2.1, by rw [e71]; exact hm.2.2.2.2.2⟩
  · have := of_decide_eq_true (List.all_eq_true.mp hs q hq)
    rw [swp_c this]
    exact hM.ptr q hq
  · rw [eS] at hk
    rw [swp_107 hab, eR]
    split
    · exact hm.sits b hb
    · split
      · exact hm.sits a ha
      · exact hm.sits k hk
  · rw [eS] at h1
    rw [swp_107 hab, if_neg (by omega), if_neg (by omega), eS, show swp V a b 96 = V 96 from swp_c (by decide), show swp V a b 97 = V 97 from swp_c (by decide)]
    exact hm.off k h1 hk
theorem sumI_one {f g : Nat → Int} {n r : Nat} (hr : r < n) (h : ∀ k, k ≠ r → f k = g k) : sumI f n = sumI g n + (f r - g r) := by
  induction n with
  | zero => omega
  | succ n ih =>
    show sumI f n + f n = sumI g n + g n + (f r - g r)
    by_cases e : r = n
    · subst e
      rw [sumI_cg (fun k hk => h k (by omega))]; omega
    · rw [ih (by omega), h n (fun z => e z.symm)]; omega
theorem sumI_two {f g : Nat → Int} {n a b : Nat} (ha : a < n) (hb : b < n) (hab : a ≠ b) (h : ∀ k, k ≠ a → k ≠ b → f k = g k) : sumI f n = sumI g n + (f a - g a) + (f b - g b) := by
  have h1 := sumI_one (f := f) (g := fun k => if k = b then g b else f k) (n := n) (r := b) hb (fun k hk => by rw [if_neg hk])
  have h2 := sumI_one (f := fun k => if k = b then g b else f k) (g := g) (n := n) (r := a) ha (fun k hk => by
    by_cases e : k = b
    · simp [e]
    · simp only [if_neg e]; exact h k hk e)
  simp only [if_true, if_neg hab] at h1 h2
  rw [h1, h2]
def ssl (V : Hp) (k : Nat) : Int := sgn ((sdV V).testBit k) (lvr V 1 k)
theorem sgn_mul (b : Bool) (x y : Int) : sgn b (x * y) = x * sgn b y := by
  unfold sgn
  split
  · rfl
  · rw [Int.mul_neg]
/-- the swing with two rowers changed -/
theorem sww_swp {V : Hp} {a b : Nat} (ha : a < nS V) (hb : b < nS V) (hab : a ≠ b) (t : Int) : sww (swp V a b) 1 (sdV V) t = sww V 1 (sdV V) t + (frc V b t - frc V a t) * (ssl V a - ssl V b) := by
  have eS : nS (swp V a b) = nS V := by unfold nS nN; rw [swp_c (by decide)]
  have el : ∀ k, lvr (swp V a b) 1 k = lvr V 1 k := fun k => by unfold lvr; rw [swp_c (by decide), swp_c (by decide)]
  have ef : ∀ k, frc (swp V a b) k t = if k = a then frc V b t else if k = b then frc V a t else frc V k t := fun k => by
    unfold frc stg
    rw [swp_107 hab, swp_c (by decide), swp_c (by decide)]
    by_cases h1 : k = a
    · simp only [if_pos h1]
    · simp only [if_neg h1]
      by_cases h2 : k = b
      · simp only [if_pos h2]
      · simp only [if_neg h2]
  unfold sww
  rw [eS, sumI_two (g := fun k => sgn ((sdV V).testBit k) (frc V k t * lvr V 1 k)) ha hb hab (fun k h1 h2 => by rw [el, ef, if_neg h1, if_neg h2])]
  rw [el, el, ef, ef, if_pos rfl, if_neg (fun z => hab z.symm), if_pos rfl]
  unfold ssl
  rw [sgn_mul, sgn_mul, sgn_mul, sgn_mul]
  generalize sgn ((sdV V).testBit a) (lvr V 1 a) = x
  generalize sgn ((sdV V).testBit b) (lvr V 1 b) = y
  grind
def vU (V : Hp) (a b n i : Nat) : Int := max (mxI (swA V (sdV V)) (V 71 47 + 1) (i - 1)) (mxI (swA (swp V a b) (sdV V)) (V 71 47 + i) (n + 1 - i))
def wU (V : Hp) (a b n k : Nat) : Int := max (mxI (fun t => swA V (sdV V) (t * 10)) (ftn V) k) (mxI (fun t => swA (swp V a b) (sdV V) (t * 10)) (ftn V + k) (ntn V n - k))
def stU (V : Hp) (k : Nat) : Int := max ((ftn V + k) * 10) (V 71 47 + 1)
theorem swA_ten (V : Hp) (b : Nat) {t s : Int} (h : t / 10 = s) : swA V b t = swA V b (s * 10) := by
  unfold swA
  rw [sww_ten V 1 b t, h]
theorem mxI_0 (f : Int → Int) (lo : Int) (n : Nat) : 0 ≤ mxI f lo n := (mxI_le.mp (Int.le_refl (mxI f lo n))).1
theorem mxI_at {f : Int → Int} {lo : Int} {n i : Nat} (h : i < n) : f (lo + i) ≤ mxI f lo n := (mxI_le.mp (Int.le_refl (mxI f lo n))).2 i h
theorem wU_0 (V : Hp) (a b n k : Nat) : 0 ≤ wU V a b n k := by
  unfold wU
  have := mxI_0 (fun t => swA V (sdV V) (t * 10)) (ftn V) k
  omega
theorem vU_0 (V : Hp) (a b n k : Nat) : 0 ≤ vU V a b n k := by
  unfold vU
  have := mxI_0 (swA V (sdV V)) (V 71 47 + 1) (k - 1)
  omega
theorem under_le {V : Hp} {a b n i k : Nat} (h0 : 0 ≤ V 71 47) (hi : 1 ≤ i) (hin : i ≤ n) (hk : ftn V + k = (V 71 47 + i) / 10) : k < ntn V n ∧ wU V a b n k ≤ vU V a b n i ∧ stU V k ≤ V 71 47 + i := by
  have hkn : k < ntn V n := by unfold ntn ftn at *; omega
  refine ⟨hkn, ?_, ?_⟩
  · unfold wU vU
    refine Int.max_le.mpr ⟨Int.le_trans ?_ (Int.le_max_left _ _), Int.le_trans ?_ (Int.le_max_right _ _)⟩
    · refine mxI_le.mpr ⟨mxI_0 _ _ _, fun j hj => ?_⟩
      obtain ⟨e, he⟩ : ∃ e : Nat, (e : Int) = max ((ftn V + j) * 10) (V 71 47 + 1) - (V 71 47 + 1) := ⟨_, Int.toNat_of_nonneg (by unfold ftn; omega)⟩
      have h1 : (V 71 47 + 1 + (e : Int)) / 10 = ftn V + j := by unfold ftn at *; omega
      rw [show swA V (sdV V) ((ftn V + (j : Int)) * 10) = swA V (sdV V) (V 71 47 + 1 + (e : Int)) from (swA_ten V _ h1).symm]
      refine mxI_at ?_
      unfold ftn at *; omega
    · refine mxI_le.mpr ⟨mxI_0 _ _ _, fun j hj => ?_⟩
      obtain ⟨e, he⟩ : ∃ e : Nat, (e : Int) = max ((ftn V + k + j) * 10) (V 71 47 + i) - (V 71 47 + i) := ⟨_, Int.toNat_of_nonneg (by unfold ftn; omega)⟩
      have h1 : (V 71 47 + i + (e : Int)) / 10 = ftn V + k + j := by unfold ftn at *; omega
      rw [show swA (swp V a b) (sdV V) ((ftn V + (k : Int) + (j : Int)) * 10) = swA (swp V a b) (sdV V) (V 71 47 + i + (e : Int)) from (swA_ten _ _ h1).symm]
      refine mxI_at ?_
      unfold ftn ntn at *; omega
  · unfold stU ftn at *; omega
theorem under_eq {V : Hp} {a b n k : Nat} (h0 : 0 ≤ V 71 47) (hn : 1 ≤ n) (hk : k < ntn V n) : ∃ i, 1 ≤ i ∧ i ≤ n ∧ vU V a b n i = wU V a b n k ∧ V 71 47 + i = stU V k := by
  obtain ⟨i, hi⟩ : ∃ i : Nat, (i : Int) = stU V k - V 71 47 := ⟨_, Int.toNat_of_nonneg (by unfold stU; omega)⟩
  have i1 : 1 ≤ i := by unfold stU at hi; omega
  have i2 : i ≤ n := by unfold stU ftn ntn at *; omega
  have i3 : ftn V + k = (V 71 47 + i) / 10 := by unfold stU ftn ntn at *; omega
  refine ⟨i, i1, i2, Int.le_antisymm ?_ (under_le h0 i1 i2 i3).2.1, by omega⟩
  unfold wU vU
  refine Int.max_le.mpr ⟨Int.le_trans ?_ (Int.le_max_left _ _), Int.le_trans ?_ (Int.le_max_right _ _)⟩
  · refine mxI_le.mpr ⟨mxI_0 _ _ _, fun j hj => ?_⟩
    obtain ⟨e, he⟩ : ∃ e : Nat, (e : Int) = (V 71 47 + 1 + j) / 10 - ftn V := ⟨_, Int.toNat_of_nonneg (by unfold ftn; omega)⟩
    have h1 : (V 71 47 + 1 + (j : Int)) / 10 = ftn V + e := by omega
    rw [swA_ten V _ h1]
    refine mxI_at (f := fun t => swA V (sdV V) (t * 10)) ?_
    unfold stU ftn at *; omega
  · refine mxI_le.mpr ⟨mxI_0 _ _ _, fun j hj => ?_⟩
    obtain ⟨e, he⟩ : ∃ e : Nat, (e : Int) = (V 71 47 + i + j) / 10 - (ftn V + k) := ⟨_, Int.toNat_of_nonneg (by omega)⟩
    have h1 : (V 71 47 + i + (j : Int)) / 10 = ftn V + k + e := by omega
    rw [swA_ten _ _ h1]
    refine mxI_at (f := fun t => swA (swp V a b) (sdV V) (t * 10)) ?_
    unfold stU ftn ntn at *; omega
def RSu (V : Hp) (n : Nat) (z : Int) : Prop := ∃ a b : Nat, a < b ∧ b < nS V ∧ ∃ i, 1 ≤ i ∧ i ≤ n ∧ z = keyU (vU V a b n i) (V 71 47 + i) (12 * a + b)
def CSu (V : Hp) (n : Nat) (z : Int) : Prop := ∃ a b : Nat, a < b ∧ b < nS V ∧ ∃ k, k < ntn V n ∧ z = keyU (wU V a b n k) (stU V k) (12 * a + b)
theorem under_same {V : Hp} {n : Nat} (h0 : 0 ≤ V 71 47) (hn : 1 ≤ n) {x y : Int} (hx : MinOf (RSu V n) x) (hy : MinOf (CSu V n) y) : x = y := by
  refine hx.uniq hy (fun z hz => ?_) (fun z hz => ?_)
  · obtain ⟨a, b, h1, h2, k, h3, rfl⟩ := hz
    obtain ⟨i, i1, i2, i3, i4⟩ := under_eq (a := a) (b := b) h0 hn h3
    exact ⟨a, b, h1, h2, i, i1, i2, by rw [i3, i4]⟩
  · obtain ⟨a, b, h1, h2, i, i1, i2, rfl⟩ := hz
    obtain ⟨k, hk⟩ : ∃ k : Nat, (k : Int) = (V 71 47 + i) / 10 - ftn V := ⟨_, Int.toNat_of_nonneg (by unfold ftn; omega)⟩
    obtain ⟨k1, k2, k3⟩ := under_le (a := a) (b := b) (k := k) h0 i1 i2 (by omega)
    refine ⟨_, ⟨a, b, h1, h2, k, k1, rfl⟩, ?_⟩
    unfold keyU
    omega
