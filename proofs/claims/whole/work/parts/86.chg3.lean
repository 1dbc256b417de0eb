/-! changes: both searches find alike -/
def frS (V : Hp) : Nat → Int := fun k => frc V k (V 71 47)
def RgV (V : Hp) (D : Nat) (f : Nat → Int) : Prop := lawB V D = true ∧ goodF V f D = true
def fxV (V : Hp) (s : Nat) : Prop := V 94 (12 + s) ≠ 0
def SmV (U V : Hp) : Prop := (∀ a : Int, a ≠ 71 → a ≠ 107 → V a = U a) ∧ ∀ j : Int, j ≠ 49 → V 71 j = U 71 j
theorem SmV.rf (V : Hp) : SmV V V := ⟨fun _ _ _ => rfl, fun _ _ => rfl⟩
theorem SmV.trn {U V : Hp} (h : SmV U V) (s : Nat) : SmV U (trn V s) := ⟨fun a h1 h2 => (trn_c h1).trans (h.1 a h1 h2), fun j hj => (trn_j hj).trans (h.2 j hj)⟩
theorem SmV.swp {U V : Hp} (h : SmV U V) (a b : Nat) : SmV U (swp V a b) := ⟨fun c h1 h2 => (swp_c h2).trans (h.1 c h1 h2), fun j hj => by rw [swp_c (by decide)]; exact h.2 j hj⟩
theorem SmV.S {U V : Hp} (h : SmV U V) : nS V = nS U := by unfold nS nN; rw [h.1 91 (by decide) (by decide)]
theorem frS_trn {V : Hp} {s : Nat} : frS (trn V s) = frS V := by
  funext k
  unfold frS frc stg
  rw [trn_c (by decide), trn_c (by decide), trn_c (by decide), trn_j (by decide)]
theorem frS_swp {V : Hp} {a b : Nat} (hab : a ≠ b) : frS (swp V a b) = swf a b (frS V) := by
  funext k
  unfold frS swf frc stg
  rw [swp_107 hab, swp_c (by decide), swp_c (by decide), swp_c (by decide)]
  by_cases h1 : k = a
  · simp only [if_pos h1]
  · simp only [if_neg h1]
    by_cases h2 : k = b
    · simp only [if_pos h2]
    · simp only [if_neg h2]
theorem RgtV_eq {U V : Hp} (h : SmV U V) : RgtV V = RgV U (sdV V) (frS V) := by
  have e91 := h.1 91 (by decide) (by decide)
  have e92 := h.1 92 (by decide) (by decide)
  have e93 := h.1 93 (by decide) (by decide)
  have e94 := h.1 94 (by decide) (by decide)
  have e98 := h.1 98 (by decide) (by decide)
  have e99 := h.1 99 (by decide) (by decide)
  have e100 := h.1 100 (by decide) (by decide)
  have e101 := h.1 101 (by decide) (by decide)
  have e46 := h.2 46 (by decide)
  have e47 := h.2 47 (by decide)
  have el : lawB V (sdV V) = lawB U (sdV V) := by unfold lawB eaV nS nN; rw [e91, e94, e98, e46]
  have eg : goodB V (sdV V) (V 71 47) = goodF U (frS V) (sdV V) := by
    unfold goodB goodF gapA gapF sww swF frS wnt lvr nS nN
    rw [e91, e92, e93, e99, e100, e101]
  unfold RgtV RgV
  rw [el, eg]
theorem act_ix {n a b : Nat} (ha : a < n) (hb : b < n) : n ≤ n + (a * n + b) ∧ aA n (n + (a * n + b)) = a ∧ aB n (n + (a * n + b)) = b ∧ n + (a * n + b) < n + n * n := by
  have hn : 0 < n := Nat.lt_of_le_of_lt (Nat.zero_le a) ha
  refine ⟨Nat.le_add_right _ _, ?_, ?_, ?_⟩
  · unfold aA
    rw [Nat.add_sub_cancel_left, Nat.mul_comm a n, Nat.mul_add_div hn, Nat.div_eq_of_lt hb, Nat.add_zero]
  · unfold aB
    rw [Nat.add_sub_cancel_left, Nat.mul_comm a n, Nat.mul_add_mod, Nat.mod_eq_of_lt hb]
  · have : (a + 1) * n ≤ n * n := Nat.mul_le_mul_right n ha
    rw [Nat.add_mul, Nat.one_mul] at this
    omega
theorem Rch_RAx {U : Hp} {m : Nat} : ∀ {V : Hp}, SmV U V → Rch m V → RAx (nS U) (fxV U) (RgV U) m (sdV V) (frS V) := by
  induction m with
  | zero =>
    intro V h hr
    have hr : RgtV V := hr
    rw [RgtV_eq h] at hr
    exact hr
  | succ m ih =>
    intro V h hr
    obtain ⟨i, i1, i2, i3⟩ := hr
    unfold actD at i3
    rcases i2 with ⟨h1, h2⟩ | ⟨h1, h2, h3, h4⟩
    · rw [if_pos h1] at i3
      have := ih (h.trn i) i3
      rw [trn_sd, frS_trn] at this
      exact Or.inl ⟨i, by rw [← h.S]; exact h1, fun z => z (by rw [← h.1 94 (by decide) (by decide)]; exact h2), this⟩
    · rw [if_neg (Nat.not_lt.mpr h1)] at i3
      have := ih (h.swp _ _) i3
      rw [swp_sd, frS_swp (Nat.ne_of_lt h2)] at this
      exact Or.inr ⟨_, _, h2, by rw [← h.S]; exact h3, this⟩
theorem frS_zero {V : Hp} {a : Nat} (h : frS V a ≠ 0) : V 107 a ≠ -1 := fun z => h (by unfold frS frc; rw [if_pos z])
theorem turns_Rch {U : Hp} {t : Nat} : ∀ {V : Hp} {lo E : Nat}, SmV U V → PathT (nS U) (fxV U) t lo (sdV V) E → RgV U E (frS V) → Rch t V := by
  induction t with
  | zero =>
    intro V lo E h h1 h2
    have h1 : E = sdV V := h1
    subst h1
    show RgtV V
    rw [RgtV_eq h]
    exact h2
  | succ t ih =>
    intro V lo E h h1 h2
    obtain ⟨s, k1, k2, k3, k4⟩ := h1
    have hS := h.S
    refine ⟨s, by rw [hS]; exact Nat.lt_of_lt_of_le k2 (Nat.le_add_right _ _), Or.inl ⟨by rw [hS]; exact k2, ?_⟩, ?_⟩
    · rw [h.1 94 (by decide) (by decide)]
      exact Classical.not_not.mp k3
    · unfold actD
      rw [if_pos (by rw [hS]; exact k2)]
      refine ih (lo := s + 1) (h.trn s) ?_ (by rw [frS_trn]; exact h2)
      · rw [trn_sd]; exact k4
theorem swaps_Rch {U : Hp} {t s : Nat} : ∀ {V : Hp} {lo E : Nat} {g : Nat → Int}, SmV U V → Path s lo (nS U) (frS V) g → PathT (nS U) (fxV U) t 0 (sdV V) E → RgV U E g → Rch (s + t) V := by
  induction s with
  | zero =>
    intro V lo E g h h1 h2 h3
    have h1 : g = frS V := h1
    subst h1
    rw [Nat.zero_add]
    exact turns_Rch h h2 h3
  | succ s ih =>
    intro V lo E g h h1 h2 h3
    obtain ⟨a, b, k1, k2, k3, k4, k5⟩ := h1
    have hS := h.S
    have ha : a < nS V := by rw [hS]; exact Nat.lt_trans k3 k2
    have hb : b < nS V := by rw [hS]; exact k2
    obtain ⟨x1, x2, x3, x4⟩ := act_ix ha hb
    rw [show s + 1 + t = (s + t) + 1 by omega]
    refine ⟨_, x4, Or.inr ⟨x1, ?_, ?_, ?_⟩, ?_⟩
    · rw [x2, x3]; exact k3
    · rw [x3]; exact hb
    · rw [x2, x3]
      by_cases e : frS V a = 0
      · exact Or.inr (frS_zero (fun z => k4 (by rw [e, z])))
      · exact Or.inl (frS_zero e)
    · unfold actD
      rw [if_neg (Nat.not_lt.mpr x1), x2, x3]
      refine ih (lo := b + 1) (h.swp a b) ?_ (by rw [swp_sd]; exact h2) h3
      · rw [frS_swp (Nat.ne_of_lt k3)]; exact k5
/-- so many turns can make the sides lawful -/
def canL (V : Hp) (t : Nat) : Prop := eaV V = -1 ∨ ∃ u : Nat, (nS V : Int) - pop (sdV V) - eaV V = t - 2 * (u : Int) ∧ u ≤ t
def ChC (V : Hp) (m : Nat) : Prop := ∃ t, t ≤ m ∧ canL V t ∧ ∃ g E, Path (m - t) 1 (nS V) (frS V) g ∧ PathT (nS V) (fxV V) t 0 (sdV V) E ∧ RgV V E g
theorem chg_1 {V : Hp} (m : Nat) (h : ChC V m) : Rch m V := by
  obtain ⟨t, t1, -, g, E, h1, h2, h3⟩ := h
  have := swaps_Rch (SmV.rf V) h1 h2 h3
  rw [show m - t + t = m by omega] at this
  exact this
theorem chg_2 {V : Hp} (hn : nS V ≤ 12) (m : Nat) (h : Rch m V) : ∃ j, j ≤ m ∧ ChC V j := by
  obtain ⟨s, t, E, g, r1, r2, r3, r4⟩ := RAx_norm (f0 := frS V) (s := 0) rfl (Rch_RAx (SmV.rf V) h)
  obtain ⟨s', r5, r6⟩ := Path_of r2
  refine ⟨s' + t, by omega, t, by omega, ?_, g, E, by rw [Nat.add_sub_cancel]; exact r6, r3, r4⟩
  obtain ⟨u, u1, u2⟩ := PathT_pop hn r3
  have hl := (of_decide_eq_true r4.1).1
  rcases hl with hl | hl
  · exact Or.inl hl
  · exact Or.inr ⟨u, by rw [u2] at hl; omega, u1⟩
