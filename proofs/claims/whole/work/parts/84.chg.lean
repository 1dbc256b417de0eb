/-! changes: any row of swaps and turns has a normal one, no longer -/
def swf (a b : Nat) (f : Nat → Int) : Nat → Int := fun k => if k = a then f b else if k = b then f a else f k
def PathR : Nat → Nat → (Nat → Int) → (Nat → Int) → Prop
  | 0, _, f, g => g = f
  | s + 1, hi, f, g => ∃ a b h, a < b ∧ b < hi ∧ PathR s b f h ∧ g = swf a b h
def Path : Nat → Nat → Nat → (Nat → Int) → (Nat → Int) → Prop
  | 0, _, _, f, g => g = f
  | s + 1, lo, hi, f, g => ∃ a b, lo ≤ b ∧ b < hi ∧ a < b ∧ f a ≠ f b ∧ Path s (b + 1) hi (swf a b f) g
theorem swf_id {a b : Nat} {f : Nat → Int} (h : f a = f b) : swf a b f = f := by
  funext k
  unfold swf
  by_cases h1 : k = a
  · rw [if_pos h1, h1, h]
  · rw [if_neg h1]
    by_cases h2 : k = b
    · rw [if_pos h2, h2, h]
    · rw [if_neg h2]
theorem swf_two {a b : Nat} {f : Nat → Int} : swf a b (swf a b f) = f := by
  funext k
  unfold swf
  by_cases h1 : k = a <;> by_cases h2 : k = b <;> simp_all
theorem PathR_mono {s hi hi' : Nat} {f g : Nat → Int} (hh : hi ≤ hi') (h : PathR s hi f g) : PathR s hi' f g := by
  cases s with
  | zero => exact h
  | succ s =>
    obtain ⟨a, b, x, h1, h2, h3, h4⟩ := h
    exact ⟨a, b, x, h1, Nat.lt_of_lt_of_le h2 hh, h3, h4⟩
theorem Path_mono {s : Nat} : ∀ {lo hi hi' : Nat} {f g : Nat → Int}, hi ≤ hi' → Path s lo hi f g → Path s lo hi' f g := by
  induction s with
  | zero => intro _ _ _ _ _ _ h; exact h
  | succ s ih =>
    intro lo hi hi' f g hh h
    obtain ⟨a, b, h1, h2, h3, h4, h5⟩ := h
    exact ⟨a, b, h1, Nat.lt_of_lt_of_le h2 hh, h3, h4, ih hh h5⟩
/-- one swap more, behind a row whose higher seats grow -/
theorem PathR_ins {s : Nat} : ∀ {hi : Nat} {f g : Nat → Int} {c d : Nat}, PathR s hi f g → c < d → d < hi → ∃ s', s' ≤ s + 1 ∧ PathR s' hi f (swf c d g) := by
  induction s with
  | zero =>
    intro hi f g c d h hcd hd
    exact ⟨1, Nat.le_refl 1, c, d, g, hcd, hd, h, rfl⟩
  | succ s ih =>
    intro hi f g c d h hcd hd
    obtain ⟨a, b, x, h1, h2, h3, rfl⟩ := h
    rcases Nat.lt_trichotomy b d with q | q | q
    · exact ⟨s + 2, Nat.le_refl _, c, d, _, hcd, hd, ⟨a, b, x, h1, q, h3, rfl⟩, rfl⟩
    · subst q
      by_cases e : a = c
      · subst e
        rw [swf_two]
        exact ⟨s, by omega, PathR_mono (Nat.le_of_lt h2) h3⟩
      · by_cases e2 : a < c
        · obtain ⟨s', g1, g2⟩ := ih h3 e2 hcd
          refine ⟨s' + 1, by omega, a, b, _, h1, h2, g2, ?_⟩
          funext k
          unfold swf
          have n1 : ¬ b = a := by omega
          have n2 : ¬ b = c := by omega
          by_cases k1 : k = a <;> by_cases k2 : k = b <;> by_cases k3 : k = c <;> simp_all <;> omega
        · obtain ⟨s', g1, g2⟩ := ih h3 (show c < a by omega) h1
          refine ⟨s' + 1, by omega, a, b, _, h1, h2, g2, ?_⟩
          funext k
          unfold swf
          have n1 : ¬ b = a := by omega
          have n2 : ¬ b = c := by omega
          by_cases k1 : k = a <;> by_cases k2 : k = b <;> by_cases k3 : k = c <;> simp_all <;> omega
    · obtain ⟨s', g1, g2⟩ := ih h3 hcd q
      refine ⟨s' + 1, by omega, if a = c then d else if a = d then c else a, b, _, ?_, h2, g2, ?_⟩
      · split
        · exact q
        · split
          · omega
          · exact h1
      · funext k
        unfold swf
        have n1 : ¬ b = c := by omega
        have n2 : ¬ b = d := by omega
        have n3 : ¬ b = a := by omega
        have n4 : ¬ c = d := by omega
        by_cases e1 : a = c
        · subst e1
          by_cases k1 : k = a <;> by_cases k2 : k = b <;> by_cases k3 : k = d <;> simp_all <;> omega
        · by_cases e2 : a = d
          · subst e2
            by_cases k1 : k = a <;> by_cases k2 : k = b <;> by_cases k3 : k = c <;> simp_all <;> omega
          · have n5 : ¬ d = a := fun z => e2 z.symm
            have n6 : ¬ c = a := fun z => e1 z.symm
            have n7 : ¬ d = c := fun z => n4 z.symm
            have n8 : ¬ a = b := fun z => n3 z.symm
            have n9 : ¬ c = b := fun z => n1 z.symm
            have n10 : ¬ d = b := fun z => n2 z.symm
            clear ih h1 h2 h3 hcd hd q g1 g2
            by_cases k1 : k = a
            · subst k1; simp only [e1, e2, n1, n2, n3, if_true, if_false]
            · by_cases k2 : k = b
              · subst k2; simp only [k1, e1, e2, n1, n2, n3, if_true, if_false]
              · by_cases k3 : k = c
                · subst k3; simp only [k1, k2, e1, e2, n4, n5, n6, n7, n8, n9, n10, if_true, if_false]
                · by_cases k4 : k = d
                  · subst k4; simp only [k1, k2, k3, e1, e2, n4, n5, n6, n7, n8, n9, n10, if_true, if_false]
                  · simp only [k1, k2, k3, k4, e1, e2, if_false]
theorem Path_snoc {s : Nat} : ∀ {lo hi : Nat} {f g : Nat → Int} {a b : Nat}, Path s lo b f g → lo ≤ b → a < b → b < hi → g a ≠ g b → Path (s + 1) lo hi f (swf a b g) := by
  induction s with
  | zero =>
    intro lo hi f g a b h h1 h2 h3 h4
    have h : g = f := h
    subst h
    exact ⟨a, b, h1, h3, h2, h4, rfl⟩
  | succ s ih =>
    intro lo hi f g a b h h1 h2 h3 h4
    obtain ⟨a', b', k1, k2, k3, k4, k5⟩ := h
    exact ⟨a', b', k1, Nat.lt_trans k2 h3, k3, k4, ih k5 k2 h2 h3 h4⟩
theorem Path_of {s : Nat} : ∀ {hi : Nat} {f g : Nat → Int}, PathR s hi f g → ∃ s', s' ≤ s ∧ Path s' 1 hi f g := by
  induction s with
  | zero => intro hi f g h; exact ⟨0, Nat.le_refl 0, h⟩
  | succ s ih =>
    intro hi f g h
    obtain ⟨a, b, x, h1, h2, h3, rfl⟩ := h
    obtain ⟨s', g1, g2⟩ := ih h3
    by_cases e : x a = x b
    · rw [swf_id e]
      exact ⟨s', by omega, Path_mono (Nat.le_of_lt h2) g2⟩
    · exact ⟨s' + 1, by omega, Path_snoc g2 (by omega) h1 h2 e⟩
def PathT (n : Nat) (fx : Nat → Prop) : Nat → Nat → Nat → Nat → Prop
  | 0, _, D, E => E = D
  | t + 1, lo, D, E => ∃ s, lo ≤ s ∧ s < n ∧ ¬ fx s ∧ PathT n fx t (s + 1) (D ^^^ 1 * 2 ^ s) E
theorem PathT_mono {n : Nat} {fx : Nat → Prop} {t lo lo' D E : Nat} (hl : lo' ≤ lo) (h : PathT n fx t lo D E) : PathT n fx t lo' D E := by
  cases t with
  | zero => exact h
  | succ t =>
    obtain ⟨s, h1, h2⟩ := h
    exact ⟨s, Nat.le_trans hl h1, h2⟩
theorem xor_two (D x : Nat) : (D ^^^ x) ^^^ x = D := by rw [Nat.xor_assoc, Nat.xor_self, Nat.xor_zero]
theorem PathT_ins {n : Nat} {fx : Nat → Prop} {t : Nat} : ∀ {lo D E s0 : Nat}, PathT n fx t lo (D ^^^ 1 * 2 ^ s0) E → lo ≤ s0 → s0 < n → ¬ fx s0 → ∃ t', t' ≤ t + 1 ∧ PathT n fx t' lo D E := by
  induction t with
  | zero =>
    intro lo D E s0 h h1 h2 h3
    exact ⟨1, Nat.le_refl 1, s0, h1, h2, h3, h⟩
  | succ t ih =>
    intro lo D E s0 h h1 h2 h3
    have h' := h
    obtain ⟨s1, k1, k2, k3, k4⟩ := h
    rcases Nat.lt_trichotomy s0 s1 with q | q | q
    · exact ⟨t + 2, Nat.le_refl _, s0, h1, h2, h3, s1, q, k2, k3, k4⟩
    · subst q
      rw [xor_two] at k4
      exact ⟨t, by omega, PathT_mono (by omega) k4⟩
    · have e : D ^^^ 1 * 2 ^ s0 ^^^ 1 * 2 ^ s1 = (D ^^^ 1 * 2 ^ s1) ^^^ 1 * 2 ^ s0 := by rw [Nat.xor_assoc, Nat.xor_comm (1 * 2 ^ s0), ← Nat.xor_assoc]
      rw [e] at k4
      obtain ⟨t', g1, g2⟩ := ih k4 q h2 h3
      exact ⟨t' + 1, by omega, s1, k1, k2, k3, g2⟩
theorem pop_xor {D s : Nat} (hs' : s < 12) : pop (D ^^^ 1 * 2 ^ s) = pop D + 1 ∨ pop (D ^^^ 1 * 2 ^ s) = pop D - 1 := by
  have hb : ∀ k, (D ^^^ 1 * 2 ^ s).testBit k = (D.testBit k ^^ decide (s = k)) := fun k => by rw [Nat.testBit_xor, Nat.one_mul, Nat.testBit_two_pow]
  cases h : D.testBit s
  · left
    refine sumI_upd hs' (fun k hk => ?_) ?_
    · rw [hb, decide_eq_false (fun z => hk z.symm), Bool.xor_false]
    · rw [hb, decide_eq_true rfl, h]; rfl
  · right
    have : pop D = pop (D ^^^ 1 * 2 ^ s) + 1 := by
      refine sumI_upd hs' (fun k hk => ?_) ?_
      · rw [hb, decide_eq_false (fun z => hk z.symm), Bool.xor_false]
      · rw [hb, decide_eq_true rfl, h]; rfl
    omega
theorem PathT_pop {n : Nat} {fx : Nat → Prop} (hn : n ≤ 12) {t : Nat} : ∀ {lo D E : Nat}, PathT n fx t lo D E → ∃ u : Nat, u ≤ t ∧ (pop E = pop D + t - 2 * u) := by
  induction t with
  | zero => intro lo D E h; have h : E = D := h; subst h; exact ⟨0, Nat.le_refl 0, by omega⟩
  | succ t ih =>
    intro lo D E h
    obtain ⟨s, k1, k2, k3, k4⟩ := h
    obtain ⟨u, u1, u2⟩ := ih k4
    rcases pop_xor (D := D) (s := s) (by omega) with q | q
    · exact ⟨u, by omega, by rw [u2, q]; omega⟩
    · exact ⟨u + 1, by omega, by rw [u2, q]; omega⟩
/-- acts, without a look at who sits -/
def RAx (n : Nat) (fx : Nat → Prop) (Rg : Nat → (Nat → Int) → Prop) : Nat → Nat → (Nat → Int) → Prop
  | 0, D, f => Rg D f
  | m + 1, D, f => (∃ s, s < n ∧ ¬ fx s ∧ RAx n fx Rg m (D ^^^ 1 * 2 ^ s) f) ∨ (∃ a b, a < b ∧ b < n ∧ RAx n fx Rg m D (swf a b f))
theorem RAx_norm {n : Nat} {fx : Nat → Prop} {Rg : Nat → (Nat → Int) → Prop} {f0 : Nat → Int} : ∀ {m s D : Nat} {f : Nat → Int}, PathR s n f0 f → RAx n fx Rg m D f → ∃ s' t E g, s' + t ≤ s + m ∧ PathR s' n f0 g ∧ PathT n fx t 0 D E ∧ Rg E g := by
  intro m
  induction m with
  | zero => intro s D f h1 h2; exact ⟨s, 0, D, f, by omega, h1, rfl, h2⟩
  | succ m ih =>
    intro s D f h1 h2
    rcases h2 with ⟨s0, q1, q2, q3⟩ | ⟨a, b, q1, q2, q3⟩
    · obtain ⟨s', t, E, g, r1, r2, r3, r4⟩ := ih h1 q3
      obtain ⟨t', r5, r6⟩ := PathT_ins r3 (Nat.zero_le s0) q1 q2
      exact ⟨s', t', E, g, by omega, r2, r6, r4⟩
    · obtain ⟨s2, q4, q5⟩ := PathR_ins h1 q1 q2
      obtain ⟨s', t, E, g, r1, r2, r3, r4⟩ := ih q5 q3
      exact ⟨s', t, E, g, by omega, r2, r3, r4⟩
/-- the least number of which A holds -/
def IsLst (A : Nat → Prop) (r : Int) : Prop := (r = -1 ∧ ∀ m, m < 4 → ¬ A m) ∨ (∃ m : Nat, m < 4 ∧ r = m ∧ A m ∧ ∀ j, j < m → ¬ A j)
theorem IsLst.uniq {A C : Nat → Prop} {r q : Int} (hA : IsLst A r) (hC : IsLst C q) (h1 : ∀ m, C m → A m) (h2 : ∀ m, A m → ∃ j, j ≤ m ∧ C j) : r = q := by
  rcases hA with ⟨a1, a2⟩ | ⟨m, a0, a1, a2, a3⟩
  · rcases hC with ⟨c1, -⟩ | ⟨j, c0, -, c2, -⟩
    · rw [a1, c1]
    · exact absurd (h1 j c2) (a2 j c0)
  · rcases hC with ⟨-, c2⟩ | ⟨j, c0, c1, c2, c3⟩
    · obtain ⟨i, i1, i2⟩ := h2 m a2
      exact absurd i2 (c2 i (by omega))
    · obtain ⟨i, i1, i2⟩ := h2 m a2
      have e1 : ¬ j < m := fun z => a3 j z (h1 j c2)
      have e2 : ¬ i < j := fun z => c3 i z i2
      rw [a1, c1]
      omega
