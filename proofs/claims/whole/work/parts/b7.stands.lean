/-! THE BOAT'S TEXT: the reference's boat stands -/
def offT (a : Int) : Int := if a = 91 then 4 else if a = 98 then 1 else if a = 99 then 1 else if a = 100 then 4 else if a = 101 then 4 else if a = 102 then 96 else if a = 103 then 8 else if a = 104 then 8 else 12
def limF (n1 n2 n0 n3 n4 n5 : Nat) (a : Int) : Nat := if a = 91 then n1 else if a = 92 then n2 else if a = 93 then n2 else if a = 94 then n2 else if a = 95 then n2 else if a = 96 then n2 else if a = 97 then n2 else if a = 98 then n0 else if a = 99 then n0 else if a = 100 then n3 else if a = 101 then n3 else if a = 102 then n4 else if a = 103 then n5 else if a = 104 then n5 else if a = 105 then n2 else if a = 106 then n2 else 0
def updL (lim : Int → Nat) (c : Int) (n : Nat) (a : Int) : Nat := if a = c then n else lim a
/-- second halves told so far -/
def CpW (H X : Hp) (lim : Int → Nat) : Prop := ∀ a b : Int, (offT a ≤ b ∧ b < offT a + lim a → X a b = H a (b - offT a)) ∧ (¬ (offT a ≤ b ∧ b < offT a + lim a) → X a b = H a b)
section PT
variable {d : Nat} {H X : Hp} {lim : Int → Nat} {Q : AV → Hp → Prop}
theorem CpW.cg {lim' : Int → Nat} (h : CpW H X lim) (e : ∀ a, lim a = lim' a) : CpW H X lim' := fun a b => by rw [← e a]; exact h a b
theorem CpW.c (h : CpW H X lim) {a : Int} (ha : lim a = 0) : X a = H a := funext fun b => (h a b).2 (by rw [ha]; omega)
theorem CpW.lo (h : CpW H X lim) {a b : Int} (q : b < offT a) : X a b = H a b := (h a b).2 (by omega)
theorem CpW.hi (h : CpW H X lim) {a : Int} {k : Nat} (q : k < lim a) {b : Int} (hb : b = offT a + k) : X a b = H a k := by
  rw [(h a b).1 (by omega)]
  exact congrArg (H a) (by omega)
theorem CpW.put1 (h : CpW H X lim) (c : Int) {k : Nat} (hc : lim c = k) {o : Nat} (ho : offT c = o) (hk : k < o) : CpW H (hs X c ((o + k : Nat) : Int) (X c k)) (updL lim c (k + 1)) := by
  intro a b
  unfold updL
  by_cases e : a = c
  · subst e
    rw [if_pos rfl, hs_at]
    by_cases eb : b = ((o + k : Nat) : Int)
    · rw [if_pos eb, h.lo (by omega)]
      refine ⟨fun _ => congrArg (H a) (by omega), fun z => absurd ⟨by omega, by omega⟩ z⟩
    · rw [if_neg eb]
      have := h a b
      rw [hc] at this
      exact ⟨fun z => this.1 (by omega), fun z => this.2 (by omega)⟩
  · rw [if_neg e, hs_ne' e]
    exact h a b
theorem cp_1 {k : Nat} (hk : k < 4) (h : CpW H X (limF k 0 0 0 0 0)) : CpW H (hs X 91 ((4 + k : Nat) : Int) (X 91 k)) (limF (k + 1) 0 0 0 0 0) := by
  have g91 := h.put1 91 (k := k) rfl (o := 4) rfl (by omega)
  refine g91.cg (fun a => ?_)
  by_cases h91 : a = 91
  · subst h91
    simp only [updL, limF, Int.reduceEq, if_true, if_false, reduceIte]
  by_cases h92 : a = 92
  · subst h92
    simp only [updL, limF, Int.reduceEq, if_true, if_false, reduceIte]
  by_cases h93 : a = 93
  · subst h93
    simp only [updL, limF, Int.reduceEq, if_true, if_false, reduceIte]
  by_cases h94 : a = 94
  · subst h94
    simp only [updL, limF, Int.reduceEq, if_true, if_false, reduceIte]
  by_cases h95 : a = 95
  · subst h95
    simp only [updL, limF, Int.reduceEq, if_true, if_false, reduceIte]
  by_cases h96 : a = 96
  · subst h96
    simp only [updL, limF, Int.reduceEq, if_true, if_false, reduceIte]
  by_cases h97 : a = 97
  · subst h97
    simp only [updL, limF, Int.reduceEq, if_true, if_false, reduceIte]
  by_cases h98 : a = 98
  · subst h98
    simp only [updL, limF, Int.reduceEq, if_true, if_false, reduceIte]
  by_cases h99 : a = 99
  · subst h99
    simp only [updL, limF, Int.reduceEq, if_true, if_false, reduceIte]
  by_cases h100 : a = 100
  · subst h100
    simp only [updL, limF, Int.reduceEq, if_true, if_false, reduceIte]
  by_cases h101 : a = 101
  · subst h101
    simp only [updL, limF, Int.reduceEq, if_true, if_false, reduceIte]
  by_cases h102 : a = 102
  · subst h102
    simp only [updL, limF, Int.reduceEq, if_true, if_false, reduceIte]
  by_cases h103 : a = 103
  · subst h103
    simp only [updL, limF, Int.reduceEq, if_true, if_false, reduceIte]
  by_cases h104 : a = 104
  · subst h104
    simp only [updL, limF, Int.reduceEq, if_true, if_false, reduceIte]
  by_cases h105 : a = 105
  · subst h105
    simp only [updL, limF, Int.reduceEq, if_true, if_false, reduceIte]
  by_cases h106 : a = 106
  · subst h106
    simp only [updL, limF, Int.reduceEq, if_true, if_false, reduceIte]
  simp only [updL, limF, if_neg h91, if_neg h92, if_neg h93, if_neg h94, if_neg h95, if_neg h96, if_neg h97, if_neg h98, if_neg h99, if_neg h100, if_neg h101, if_neg h102, if_neg h103, if_neg h104, if_neg h105, if_neg h106]
theorem cp_2 {k : Nat} (hk : k < 12) (h : CpW H X (limF 4 k 0 0 0 0)) : CpW H (hs (hs (hs (hs (hs (hs (hs (hs X 92 ((12 + k : Nat) : Int) (X 92 k)) 93 ((12 + k : Nat) : Int) (X 93 k)) 94 ((12 + k : Nat) : Int) (X 94 k)) 95 ((12 + k : Nat) : Int) (X 95 k)) 96 ((12 + k : Nat) : Int) (X 96 k)) 97 ((12 + k : Nat) : Int) (X 97 k)) 105 ((12 + k : Nat) : Int) (X 105 k)) 106 ((12 + k : Nat) : Int) (X 106 k)) (limF 4 (k + 1) 0 0 0 0) := by
  have g92 := h.put1 92 (k := k) rfl (o := 12) rfl (by omega)
  have g93 := g92.put1 93 (k := k) rfl (o := 12) rfl (by omega)
  rw [show (hs X 92 ((12 + k : Nat) : Int) (X 92 k)) 93 (k : Int) = X 93 k by simp only [hs_app, Int.reduceEq, Int.reduceAdd, and_false, false_and, and_true, true_and, if_false, if_true, reduceIte, eq_self, and_self]] at g93
  have g94 := g93.put1 94 (k := k) rfl (o := 12) rfl (by omega)
  rw [show (hs (hs X 92 ((12 + k : Nat) : Int) (X 92 k)) 93 ((12 + k : Nat) : Int) (X 93 k)) 94 (k : Int) = X 94 k by simp only [hs_app, Int.reduceEq, Int.reduceAdd, and_false, false_and, and_true, true_and, if_false, if_true, reduceIte, eq_self, and_self]] at g94
  have g95 := g94.put1 95 (k := k) rfl (o := 12) rfl (by omega)
  rw [show (hs (hs (hs X 92 ((12 + k : Nat) : Int) (X 92 k)) 93 ((12 + k : Nat) : Int) (X 93 k)) 94 ((12 + k : Nat) : Int) (X 94 k)) 95 (k : Int) = X 95 k by simp only [hs_app, Int.reduceEq, Int.reduceAdd, and_false, false_and, and_true, true_and, if_false, if_true, reduceIte, eq_self, and_self]] at g95
  have g96 := g95.put1 96 (k := k) rfl (o := 12) rfl (by omega)
  rw [show (hs (hs (hs (hs X 92 ((12 + k : Nat) : Int) (X 92 k)) 93 ((12 + k : Nat) : Int) (X 93 k)) 94 ((12 + k : Nat) : Int) (X 94 k)) 95 ((12 + k : Nat) : Int) (X 95 k)) 96 (k : Int) = X 96 k by simp only [hs_app, Int.reduceEq, Int.reduceAdd, and_false, false_and, and_true, true_and, if_false, if_true, reduceIte, eq_self, and_self]] at g96
  have g97 := g96.put1 97 (k := k) rfl (o := 12) rfl (by omega)
  rw [show (hs (hs (hs (hs (hs X 92 ((12 + k : Nat) : Int) (X 92 k)) 93 ((12 + k : Nat) : Int) (X 93 k)) 94 ((12 + k : Nat) : Int) (X 94 k)) 95 ((12 + k : Nat) : Int) (X 95 k)) 96 ((12 + k : Nat) : Int) (X 96 k)) 97 (k : Int) = X 97 k by simp only [hs_app, Int.reduceEq, Int.reduceAdd, and_false, false_and, and_true, true_and, if_false, if_true, reduceIte, eq_self, and_self]] at g97
  have g105 := g97.put1 105 (k := k) rfl (o := 12) rfl (by omega)
  rw [show (hs (hs (hs (hs (hs (hs X 92 ((12 + k : Nat) : Int) (X 92 k)) 93 ((12 + k : Nat) : Int) (X 93 k)) 94 ((12 + k : Nat) : Int) (X 94 k)) 95 ((12 + k : Nat) : Int) (X 95 k)) 96 ((12 + k : Nat) : Int) (X 96 k)) 97 ((12 + k : Nat) : Int) (X 97 k)) 105 (k : Int) = X 105 k by simp only [hs_app, Int.reduceEq, Int.reduceAdd, and_false, false_and, and_true, true_and, if_false, if_true, reduceIte, eq_self, and_self]] at g105
  have g106 := g105.put1 106 (k := k) rfl (o := 12) rfl (by omega)
  rw [show (hs (hs (hs (hs (hs (hs (hs X 92 ((12 + k : Nat) : Int) (X 92 k)) 93 ((12 + k : Nat) : Int) (X 93 k)) 94 ((12 + k : Nat) : Int) (X 94 k)) 95 ((12 + k : Nat) : Int) (X 95 k)) 96 ((12 + k : Nat) : Int) (X 96 k)) 97 ((12 + k : Nat) : Int) (X 97 k)) 105 ((12 + k : Nat) : Int) (X 105 k)) 106 (k : Int) = X 106 k by simp only [hs_app, Int.reduceEq, Int.reduceAdd, and_false, false_and, and_true, true_and, if_false, if_true, reduceIte, eq_self, and_self]] at g106
  refine g106.cg (fun a => ?_)
  by_cases h91 : a = 91
  · subst h91
    simp only [updL, limF, Int.reduceEq, if_true, if_false, reduceIte]
  by_cases h92 : a = 92
  · subst h92
    simp only [updL, limF, Int.reduceEq, if_true, if_false, reduceIte]
  by_cases h93 : a = 93
  · subst h93
    simp only [updL, limF, Int.reduceEq, if_true, if_false, reduceIte]
  by_cases h94 : a = 94
  · subst h94
    simp only [updL, limF, Int.reduceEq, if_true, if_false, reduceIte]
  by_cases h95 : a = 95
  · subst h95
    simp only [updL, limF, Int.reduceEq, if_true, if_false, reduceIte]
  by_cases h96 : a = 96
  · subst h96
    simp only [updL, limF, Int.reduceEq, if_true, if_false, reduceIte]
  by_cases h97 : a = 97
  · subst h97
    simp only [updL, limF, Int.reduceEq, if_true, if_false, reduceIte]
  by_cases h98 : a = 98
  · subst h98
    simp only [updL, limF, Int.reduceEq, if_true, if_false, reduceIte]
  by_cases h99 : a = 99
  · subst h99
    simp only [updL, limF, Int.reduceEq, if_true, if_false, reduceIte]
  by_cases h100 : a = 100
  · subst h100
    simp only [updL, limF, Int.reduceEq, if_true, if_false, reduceIte]
  by_cases h101 : a = 101
  · subst h101
    simp only [updL, limF, Int.reduceEq, if_true, if_false, reduceIte]
  by_cases h102 : a = 102
  · subst h102
    simp only [updL, limF, Int.reduceEq, if_true, if_false, reduceIte]
  by_cases h103 : a = 103
  · subst h103
    simp only [updL, limF, Int.reduceEq, if_true, if_false, reduceIte]
  by_cases h104 : a = 104
  · subst h104
    simp only [updL, limF, Int.reduceEq, if_true, if_false, reduceIte]
  by_cases h105 : a = 105
  · subst h105
    simp only [updL, limF, Int.reduceEq, if_true, if_false, reduceIte]
  by_cases h106 : a = 106
  · subst h106
    simp only [updL, limF, Int.reduceEq, if_true, if_false, reduceIte]
  simp only [updL, limF, if_neg h91, if_neg h92, if_neg h93, if_neg h94, if_neg h95, if_neg h96, if_neg h97, if_neg h98, if_neg h99, if_neg h100, if_neg h101, if_neg h102, if_neg h103, if_neg h104, if_neg h105, if_neg h106]
theorem cp_0 (h : CpW H X (limF 4 12 0 0 0 0)) : CpW H (hs (hs X 98 1 (X 98 0)) 99 1 (X 99 0)) (limF 4 12 1 0 0 0) := by
  have g98 : CpW H (hs X 98 1 (X 98 0)) _ := h.put1 98 (k := 0) rfl (o := 1) rfl (by omega)
  have g99 : CpW H (hs (hs X 98 1 (X 98 0)) 99 1 (hs X 98 1 (X 98 0) 99 0)) _ := g98.put1 99 (k := 0) rfl (o := 1) rfl (by omega)
  rw [show hs X 98 1 (X 98 0) 99 0 = X 99 0 by simp only [hs_app, Int.reduceEq, Int.reduceAdd, and_false, false_and, and_true, true_and, if_false, if_true, reduceIte, eq_self, and_self]] at g99
  refine g99.cg (fun a => ?_)
  by_cases h91 : a = 91
  · subst h91
    simp only [updL, limF, Int.reduceEq, if_true, if_false, reduceIte]
  by_cases h92 : a = 92
  · subst h92
    simp only [updL, limF, Int.reduceEq, if_true, if_false, reduceIte]
  by_cases h93 : a = 93
  · subst h93
    simp only [updL, limF, Int.reduceEq, if_true, if_false, reduceIte]
  by_cases h94 : a = 94
  · subst h94
    simp only [updL, limF, Int.reduceEq, if_true, if_false, reduceIte]
  by_cases h95 : a = 95
  · subst h95
    simp only [updL, limF, Int.reduceEq, if_true, if_false, reduceIte]
  by_cases h96 : a = 96
  · subst h96
    simp only [updL, limF, Int.reduceEq, if_true, if_false, reduceIte]
  by_cases h97 : a = 97
  · subst h97
    simp only [updL, limF, Int.reduceEq, if_true, if_false, reduceIte]
  by_cases h98 : a = 98
  · subst h98
    simp only [updL, limF, Int.reduceEq, if_true, if_false, reduceIte]
  by_cases h99 : a = 99
  · subst h99
    simp only [updL, limF, Int.reduceEq, if_true, if_false, reduceIte]
  by_cases h100 : a = 100
  · subst h100
    simp only [updL, limF, Int.reduceEq, if_true, if_false, reduceIte]
  by_cases h101 : a = 101
  · subst h101
    simp only [updL, limF, Int.reduceEq, if_true, if_false, reduceIte]
  by_cases h102 : a = 102
  · subst h102
    simp only [updL, limF, Int.reduceEq, if_true, if_false, reduceIte]
  by_cases h103 : a = 103
  · subst h103
    simp only [updL, limF, Int.reduceEq, if_true, if_false, reduceIte]
  by_cases h104 : a = 104
  · subst h104
    simp only [updL, limF, Int.reduceEq, if_true, if_false, reduceIte]
  by_cases h105 : a = 105
  · subst h105
    simp only [updL, limF, Int.reduceEq, if_true, if_false, reduceIte]
  by_cases h106 : a = 106
  · subst h106
    simp only [updL, limF, Int.reduceEq, if_true, if_false, reduceIte]
  simp only [updL, limF, if_neg h91, if_neg h92, if_neg h93, if_neg h94, if_neg h95, if_neg h96, if_neg h97, if_neg h98, if_neg h99, if_neg h100, if_neg h101, if_neg h102, if_neg h103, if_neg h104, if_neg h105, if_neg h106]
theorem cp_3 {k : Nat} (hk : k < 4) (h : CpW H X (limF 4 12 1 k 0 0)) : CpW H (hs (hs X 100 ((4 + k : Nat) : Int) (X 100 k)) 101 ((4 + k : Nat) : Int) (X 101 k)) (limF 4 12 1 (k + 1) 0 0) := by
  have g100 := h.put1 100 (k := k) rfl (o := 4) rfl (by omega)
  have g101 := g100.put1 101 (k := k) rfl (o := 4) rfl (by omega)
  rw [show (hs X 100 ((4 + k : Nat) : Int) (X 100 k)) 101 (k : Int) = X 101 k by simp only [hs_app, Int.reduceEq, Int.reduceAdd, and_false, false_and, and_true, true_and, if_false, if_true, reduceIte, eq_self, and_self]] at g101
  refine g101.cg (fun a => ?_)
  by_cases h91 : a = 91
  · subst h91
    simp only [updL, limF, Int.reduceEq, if_true, if_false, reduceIte]
  by_cases h92 : a = 92
  · subst h92
    simp only [updL, limF, Int.reduceEq, if_true, if_false, reduceIte]
  by_cases h93 : a = 93
  · subst h93
    simp only [updL, limF, Int.reduceEq, if_true, if_false, reduceIte]
  by_cases h94 : a = 94
  · subst h94
    simp only [updL, limF, Int.reduceEq, if_true, if_false, reduceIte]
  by_cases h95 : a = 95
  · subst h95
    simp only [updL, limF, Int.reduceEq, if_true, if_false, reduceIte]
  by_cases h96 : a = 96
  · subst h96
    simp only [updL, limF, Int.reduceEq, if_true, if_false, reduceIte]
  by_cases h97 : a = 97
  · subst h97
    simp only [updL, limF, Int.reduceEq, if_true, if_false, reduceIte]
  by_cases h98 : a = 98
  · subst h98
    simp only [updL, limF, Int.reduceEq, if_true, if_false, reduceIte]
  by_cases h99 : a = 99
  · subst h99
    simp only [updL, limF, Int.reduceEq, if_true, if_false, reduceIte]
  by_cases h100 : a = 100
  · subst h100
    simp only [updL, limF, Int.reduceEq, if_true, if_false, reduceIte]
  by_cases h101 : a = 101
  · subst h101
    simp only [updL, limF, Int.reduceEq, if_true, if_false, reduceIte]
  by_cases h102 : a = 102
  · subst h102
    simp only [updL, limF, Int.reduceEq, if_true, if_false, reduceIte]
  by_cases h103 : a = 103
  · subst h103
    simp only [updL, limF, Int.reduceEq, if_true, if_false, reduceIte]
  by_cases h104 : a = 104
  · subst h104
    simp only [updL, limF, Int.reduceEq, if_true, if_false, reduceIte]
  by_cases h105 : a = 105
  · subst h105
    simp only [updL, limF, Int.reduceEq, if_true, if_false, reduceIte]
  by_cases h106 : a = 106
  · subst h106
    simp only [updL, limF, Int.reduceEq, if_true, if_false, reduceIte]
  simp only [updL, limF, if_neg h91, if_neg h92, if_neg h93, if_neg h94, if_neg h95, if_neg h96, if_neg h97, if_neg h98, if_neg h99, if_neg h100, if_neg h101, if_neg h102, if_neg h103, if_neg h104, if_neg h105, if_neg h106]
theorem cp_4 {k : Nat} (hk : k < 96) (h : CpW H X (limF 4 12 1 4 k 0)) : CpW H (hs X 102 ((96 + k : Nat) : Int) (X 102 k)) (limF 4 12 1 4 (k + 1) 0) := by
  have g102 := h.put1 102 (k := k) rfl (o := 96) rfl (by omega)
  refine g102.cg (fun a => ?_)
  by_cases h91 : a = 91
  · subst h91
    simp only [updL, limF, Int.reduceEq, if_true, if_false, reduceIte]
  by_cases h92 : a = 92
  · subst h92
    simp only [updL, limF, Int.reduceEq, if_true, if_false, reduceIte]
  by_cases h93 : a = 93
  · subst h93
    simp only [updL, limF, Int.reduceEq, if_true, if_false, reduceIte]
  by_cases h94 : a = 94
  · subst h94
    simp only [updL, limF, Int.reduceEq, if_true, if_false, reduceIte]
  by_cases h95 : a = 95
  · subst h95
    simp only [updL, limF, Int.reduceEq, if_true, if_false, reduceIte]
  by_cases h96 : a = 96
  · subst h96
    simp only [updL, limF, Int.reduceEq, if_true, if_false, reduceIte]
  by_cases h97 : a = 97
  · subst h97
    simp only [updL, limF, Int.reduceEq, if_true, if_false, reduceIte]
  by_cases h98 : a = 98
  · subst h98
    simp only [updL, limF, Int.reduceEq, if_true, if_false, reduceIte]
  by_cases h99 : a = 99
  · subst h99
    simp only [updL, limF, Int.reduceEq, if_true, if_false, reduceIte]
  by_cases h100 : a = 100
  · subst h100
    simp only [updL, limF, Int.reduceEq, if_true, if_false, reduceIte]
  by_cases h101 : a = 101
  · subst h101
    simp only [updL, limF, Int.reduceEq, if_true, if_false, reduceIte]
  by_cases h102 : a = 102
  · subst h102
    simp only [updL, limF, Int.reduceEq, if_true, if_false, reduceIte]
  by_cases h103 : a = 103
  · subst h103
    simp only [updL, limF, Int.reduceEq, if_true, if_false, reduceIte]
  by_cases h104 : a = 104
  · subst h104
    simp only [updL, limF, Int.reduceEq, if_true, if_false, reduceIte]
  by_cases h105 : a = 105
  · subst h105
    simp only [updL, limF, Int.reduceEq, if_true, if_false, reduceIte]
  by_cases h106 : a = 106
  · subst h106
    simp only [updL, limF, Int.reduceEq, if_true, if_false, reduceIte]
  simp only [updL, limF, if_neg h91, if_neg h92, if_neg h93, if_neg h94, if_neg h95, if_neg h96, if_neg h97, if_neg h98, if_neg h99, if_neg h100, if_neg h101, if_neg h102, if_neg h103, if_neg h104, if_neg h105, if_neg h106]
theorem cp_5 {k : Nat} (hk : k < 8) (h : CpW H X (limF 4 12 1 4 96 k)) : CpW H (hs (hs X 103 ((8 + k : Nat) : Int) (X 103 k)) 104 ((8 + k : Nat) : Int) (X 104 k)) (limF 4 12 1 4 96 (k + 1)) := by
  have g103 := h.put1 103 (k := k) rfl (o := 8) rfl (by omega)
  have g104 := g103.put1 104 (k := k) rfl (o := 8) rfl (by omega)
  rw [show (hs X 103 ((8 + k : Nat) : Int) (X 103 k)) 104 (k : Int) = X 104 k by simp only [hs_app, Int.reduceEq, Int.reduceAdd, and_false, false_and, and_true, true_and, if_false, if_true, reduceIte, eq_self, and_self]] at g104
  refine g104.cg (fun a => ?_)
  by_cases h91 : a = 91
  · subst h91
    simp only [updL, limF, Int.reduceEq, if_true, if_false, reduceIte]
  by_cases h92 : a = 92
  · subst h92
    simp only [updL, limF, Int.reduceEq, if_true, if_false, reduceIte]
  by_cases h93 : a = 93
  · subst h93
    simp only [updL, limF, Int.reduceEq, if_true, if_false, reduceIte]
  by_cases h94 : a = 94
  · subst h94
    simp only [updL, limF, Int.reduceEq, if_true, if_false, reduceIte]
  by_cases h95 : a = 95
  · subst h95
    simp only [updL, limF, Int.reduceEq, if_true, if_false, reduceIte]
  by_cases h96 : a = 96
  · subst h96
    simp only [updL, limF, Int.reduceEq, if_true, if_false, reduceIte]
  by_cases h97 : a = 97
  · subst h97
    simp only [updL, limF, Int.reduceEq, if_true, if_false, reduceIte]
  by_cases h98 : a = 98
  · subst h98
    simp only [updL, limF, Int.reduceEq, if_true, if_false, reduceIte]
  by_cases h99 : a = 99
  · subst h99
    simp only [updL, limF, Int.reduceEq, if_true, if_false, reduceIte]
  by_cases h100 : a = 100
  · subst h100
    simp only [updL, limF, Int.reduceEq, if_true, if_false, reduceIte]
  by_cases h101 : a = 101
  · subst h101
    simp only [updL, limF, Int.reduceEq, if_true, if_false, reduceIte]
  by_cases h102 : a = 102
  · subst h102
    simp only [updL, limF, Int.reduceEq, if_true, if_false, reduceIte]
  by_cases h103 : a = 103
  · subst h103
    simp only [updL, limF, Int.reduceEq, if_true, if_false, reduceIte]
  by_cases h104 : a = 104
  · subst h104
    simp only [updL, limF, Int.reduceEq, if_true, if_false, reduceIte]
  by_cases h105 : a = 105
  · subst h105
    simp only [updL, limF, Int.reduceEq, if_true, if_false, reduceIte]
  by_cases h106 : a = 106
  · subst h106
    simp only [updL, limF, Int.reduceEq, if_true, if_false, reduceIte]
  simp only [updL, limF, if_neg h91, if_neg h92, if_neg h93, if_neg h94, if_neg h95, if_neg h96, if_neg h97, if_neg h98, if_neg h99, if_neg h100, if_neg h101, if_neg h102, if_neg h103, if_neg h104, if_neg h105, if_neg h106]
theorem w_c {c k : Nat} (h : c + k < 2147483648) {c' : Int} (hc : c' = c) : w32 (c' + k) = ((c + k : Nat) : Int) := by rw [hc]; exact w_add h
set_option maxRecDepth 20000 in
theorem sd_l1 (hP : Ptr H) {z : AV} (h : CpW H X (limF 0 0 0 0 0 0)) (hX : ∀ Y, CpW H Y (limF 4 0 0 0 0 0) → R (d + 1) MO_stands (blk MO_stands 2) [va 71, vi 4, z] [] Y Q) : R (d + 1) MO_stands (blk MO_stands 1) [va 71, vi 0, z] [] X Q := by
  have f := mo_f hP
  refine up_nat (P := fun k => ∀ X, CpW H X (limF k 0 0 0 0 0) → R (d + 1) MO_stands (blk MO_stands 1) [va 71, vi k, z] [] X Q) (n := 4) ?_ ?_ 0 (Nat.zero_le _) X h
  · intro Y hY
    have := hX Y hY
    rw [e_MO_stands_1]
    simp only [k_MO_stands_1, rr, sh, Nat.reduceLT, Nat.reduceMul, Int.reduceToNat, Int.reduceGT, Int.reduceGE, Int.reduceNe, true_and, and_true, true_or, or_true, false_or, or_false, and_self, or_self, if_true, if_false, reduceIte, not_true_eq_false, not_false_eq_true, Int.reduceEq, Int.reduceNe, Int.reduceLT, Int.reduceLE, Int.reduceAdd, Int.reduceSub, Int.reduceMul, Int.reduceNeg, Nat.reduceAdd, Nat.reduceLeDiff, Nat.reduceEqDiff, ne_eq, List.length_cons, List.length_nil, Nat.reduceSub, show (4 : Int) ≤ ((4 : Nat) : Int) by decide]
    exact this
  · intro k hk ih Y hY
    have b1 : 4 + k < 8 := by clear ih; omega
    have := ih _ (cp_1 hk hY)
    have c71 : Y 71 = H 71 := hY.c rfl
    have c1 : ¬ (4 : Int) ≤ (k : Int) := il_n hk
    have j1 : 0 ≤ ((4 + k : Nat) : Int) ∧ ((4 + k : Nat) : Int) < 8 := ix_n b1
    have j0 : 0 ≤ (k : Int) ∧ (k : Int) < 8 := ix_n (Nat.lt_trans hk (by decide))
    have w1 := w_c (c := 4) (k := k) (Nat.lt_trans b1 (by decide)) (c' := 4) rfl
    have kw := w32_s (n := k) (Nat.lt_trans hk (by decide))
    rw [e_MO_stands_1]
    simp only [k_MO_stands_1, rr, sh, Nat.reduceLT, Nat.reduceMul, Int.reduceToNat, Int.reduceGT, Int.reduceGE, Int.reduceNe, true_and, and_true, true_or, or_true, false_or, or_false, and_self, or_self, if_true, if_false, reduceIte, not_true_eq_false, not_false_eq_true, Int.reduceEq, Int.reduceNe, Int.reduceLT, Int.reduceLE, Int.reduceAdd, Int.reduceSub, Int.reduceMul, Int.reduceNeg, Nat.reduceAdd, Nat.reduceLeDiff, Nat.reduceEqDiff, ne_eq, List.length_cons, List.length_nil, Nat.reduceSub, hs_app, false_and, and_false, c71, f, c1, w1, j1, j0, kw]
    exact this
set_option maxRecDepth 20000 in
theorem sd_l2 (hP : Ptr H) {z : AV} (h : CpW H X (limF 4 0 0 0 0 0)) (hX : ∀ Y, CpW H Y (limF 4 12 0 0 0 0) → R (d + 1) MO_stands (blk MO_stands 4) [va 71, vi 12, z] [] Y Q) : R (d + 1) MO_stands (blk MO_stands 3) [va 71, vi 0, z] [] X Q := by
  have f := mo_f hP
  refine up_nat (P := fun k => ∀ X, CpW H X (limF 4 k 0 0 0 0) → R (d + 1) MO_stands (blk MO_stands 3) [va 71, vi k, z] [] X Q) (n := 12) ?_ ?_ 0 (Nat.zero_le _) X h
  · intro Y hY
    have := hX Y hY
    rw [e_MO_stands_3]
    simp only [k_MO_stands_3, rr, sh, Nat.reduceLT, Nat.reduceMul, Int.reduceToNat, Int.reduceGT, Int.reduceGE, Int.reduceNe, true_and, and_true, true_or, or_true, false_or, or_false, and_self, or_self, if_true, if_false, reduceIte, not_true_eq_false, not_false_eq_true, Int.reduceEq, Int.reduceNe, Int.reduceLT, Int.reduceLE, Int.reduceAdd, Int.reduceSub, Int.reduceMul, Int.reduceNeg, Nat.reduceAdd, Nat.reduceLeDiff, Nat.reduceEqDiff, ne_eq, List.length_cons, List.length_nil, Nat.reduceSub, show (12 : Int) ≤ ((12 : Nat) : Int) by decide]
    exact this
  · intro k hk ih Y hY
    have b1 : 12 + k < 24 := by clear ih; omega
    have := ih _ (cp_2 hk hY)
    have c71 : Y 71 = H 71 := hY.c rfl
    have c1 : ¬ (12 : Int) ≤ (k : Int) := il_n hk
    have j1 : 0 ≤ ((12 + k : Nat) : Int) ∧ ((12 + k : Nat) : Int) < 24 := ix_n b1
    have j0 : 0 ≤ (k : Int) ∧ (k : Int) < 24 := ix_n (Nat.lt_trans hk (by decide))
    have w1 := w_c (c := 12) (k := k) (Nat.lt_trans b1 (by decide)) (c' := 12) rfl
    have kw := w32_s (n := k) (Nat.lt_trans hk (by decide))
    rw [e_MO_stands_3]
    simp only [k_MO_stands_3, rr, sh, Nat.reduceLT, Nat.reduceMul, Int.reduceToNat, Int.reduceGT, Int.reduceGE, Int.reduceNe, true_and, and_true, true_or, or_true, false_or, or_false, and_self, or_self, if_true, if_false, reduceIte, not_true_eq_false, not_false_eq_true, Int.reduceEq, Int.reduceNe, Int.reduceLT, Int.reduceLE, Int.reduceAdd, Int.reduceSub, Int.reduceMul, Int.reduceNeg, Nat.reduceAdd, Nat.reduceLeDiff, Nat.reduceEqDiff, ne_eq, List.length_cons, List.length_nil, Nat.reduceSub, hs_app, false_and, and_false, c71, f, c1, w1, j1, j0, kw]
    exact this
set_option maxRecDepth 20000 in
theorem sd_l3 (hP : Ptr H) {z : AV} (h : CpW H X (limF 4 12 1 0 0 0)) (hX : ∀ Y, CpW H Y (limF 4 12 1 4 0 0) → R (d + 1) MO_stands (blk MO_stands 6) [va 71, vi 4, z] [] Y Q) : R (d + 1) MO_stands (blk MO_stands 5) [va 71, vi 0, z] [] X Q := by
  have f := mo_f hP
  refine up_nat (P := fun k => ∀ X, CpW H X (limF 4 12 1 k 0 0) → R (d + 1) MO_stands (blk MO_stands 5) [va 71, vi k, z] [] X Q) (n := 4) ?_ ?_ 0 (Nat.zero_le _) X h
  · intro Y hY
    have := hX Y hY
    rw [e_MO_stands_5]
    simp only [k_MO_stands_5, rr, sh, Nat.reduceLT, Nat.reduceMul, Int.reduceToNat, Int.reduceGT, Int.reduceGE, Int.reduceNe, true_and, and_true, true_or, or_true, false_or, or_false, and_self, or_self, if_true, if_false, reduceIte, not_true_eq_false, not_false_eq_true, Int.reduceEq, Int.reduceNe, Int.reduceLT, Int.reduceLE, Int.reduceAdd, Int.reduceSub, Int.reduceMul, Int.reduceNeg, Nat.reduceAdd, Nat.reduceLeDiff, Nat.reduceEqDiff, ne_eq, List.length_cons, List.length_nil, Nat.reduceSub, show (4 : Int) ≤ ((4 : Nat) : Int) by decide]
    exact this
  · intro k hk ih Y hY
    have b1 : 4 + k < 8 := by clear ih; omega
    have := ih _ (cp_3 hk hY)
    have c71 : Y 71 = H 71 := hY.c rfl
    have c1 : ¬ (4 : Int) ≤ (k : Int) := il_n hk
    have j1 : 0 ≤ ((4 + k : Nat) : Int) ∧ ((4 + k : Nat) : Int) < 8 := ix_n b1
    have j0 : 0 ≤ (k : Int) ∧ (k : Int) < 8 := ix_n (Nat.lt_trans hk (by decide))
    have w1 := w_c (c := 4) (k := k) (Nat.lt_trans b1 (by decide)) (c' := 4) rfl
    have kw := w32_s (n := k) (Nat.lt_trans hk (by decide))
    rw [e_MO_stands_5]
    simp only [k_MO_stands_5, rr, sh, Nat.reduceLT, Nat.reduceMul, Int.reduceToNat, Int.reduceGT, Int.reduceGE, Int.reduceNe, true_and, and_true, true_or, or_true, false_or, or_false, and_self, or_self, if_true, if_false, reduceIte, not_true_eq_false, not_false_eq_true, Int.reduceEq, Int.reduceNe, Int.reduceLT, Int.reduceLE, Int.reduceAdd, Int.reduceSub, Int.reduceMul, Int.reduceNeg, Nat.reduceAdd, Nat.reduceLeDiff, Nat.reduceEqDiff, ne_eq, List.length_cons, List.length_nil, Nat.reduceSub, hs_app, false_and, and_false, c71, f, c1, w1, j1, j0, kw]
    exact this
set_option maxRecDepth 20000 in
theorem sd_l4 (hP : Ptr H) {z : AV} (h : CpW H X (limF 4 12 1 4 0 0)) (hX : ∀ Y, CpW H Y (limF 4 12 1 4 96 0) → R (d + 1) MO_stands (blk MO_stands 8) [va 71, vi 96, z] [] Y Q) : R (d + 1) MO_stands (blk MO_stands 7) [va 71, vi 0, z] [] X Q := by
  have f := mo_f hP
  refine up_nat (P := fun k => ∀ X, CpW H X (limF 4 12 1 4 k 0) → R (d + 1) MO_stands (blk MO_stands 7) [va 71, vi k, z] [] X Q) (n := 96) ?_ ?_ 0 (Nat.zero_le _) X h
  · intro Y hY
    have := hX Y hY
    rw [e_MO_stands_7]
    simp only [k_MO_stands_7, rr, sh, Nat.reduceLT, Nat.reduceMul, Int.reduceToNat, Int.reduceGT, Int.reduceGE, Int.reduceNe, true_and, and_true, true_or, or_true, false_or, or_false, and_self, or_self, if_true, if_false, reduceIte, not_true_eq_false, not_false_eq_true, Int.reduceEq, Int.reduceNe, Int.reduceLT, Int.reduceLE, Int.reduceAdd, Int.reduceSub, Int.reduceMul, Int.reduceNeg, Nat.reduceAdd, Nat.reduceLeDiff, Nat.reduceEqDiff, ne_eq, List.length_cons, List.length_nil, Nat.reduceSub, show (96 : Int) ≤ ((96 : Nat) : Int) by decide]
    exact this
  · intro k hk ih Y hY
    have b1 : 96 + k < 192 := by clear ih; omega
    have := ih _ (cp_4 hk hY)
    have c71 : Y 71 = H 71 := hY.c rfl
    have c1 : ¬ (96 : Int) ≤ (k : Int) := il_n hk
    have j1 : 0 ≤ ((96 + k : Nat) : Int) ∧ ((96 + k : Nat) : Int) < 192 := ix_n b1
    have j0 : 0 ≤ (k : Int) ∧ (k : Int) < 192 := ix_n (Nat.lt_trans hk (by decide))
    have w1 := w_c (c := 96) (k := k) (Nat.lt_trans b1 (by decide)) (c' := 96) rfl
    have kw := w32_s (n := k) (Nat.lt_trans hk (by decide))
    rw [e_MO_stands_7]
    simp only [k_MO_stands_7, rr, sh, Nat.reduceLT, Nat.reduceMul, Int.reduceToNat, Int.reduceGT, Int.reduceGE, Int.reduceNe, true_and, and_true, true_or, or_true, false_or, or_false, and_self, or_self, if_true, if_false, reduceIte, not_true_eq_false, not_false_eq_true, Int.reduceEq, Int.reduceNe, Int.reduceLT, Int.reduceLE, Int.reduceAdd, Int.reduceSub, Int.reduceMul, Int.reduceNeg, Nat.reduceAdd, Nat.reduceLeDiff, Nat.reduceEqDiff, ne_eq, List.length_cons, List.length_nil, Nat.reduceSub, hs_app, false_and, and_false, c71, f, c1, w1, j1, j0, kw]
    exact this
set_option maxRecDepth 20000 in
theorem sd_l5 (hP : Ptr H) {z : AV} (h : CpW H X (limF 4 12 1 4 96 0)) (hX : ∀ Y, CpW H Y (limF 4 12 1 4 96 8) → R (d + 1) MO_stands (blk MO_stands 10) [va 71, vi 8, z] [] Y Q) : R (d + 1) MO_stands (blk MO_stands 9) [va 71, vi 0, z] [] X Q := by
  have f := mo_f hP
  refine up_nat (P := fun k => ∀ X, CpW H X (limF 4 12 1 4 96 k) → R (d + 1) MO_stands (blk MO_stands 9) [va 71, vi k, z] [] X Q) (n := 8) ?_ ?_ 0 (Nat.zero_le _) X h
  · intro Y hY
    have := hX Y hY
    rw [e_MO_stands_9]
    simp only [k_MO_stands_9, rr, sh, Nat.reduceLT, Nat.reduceMul, Int.reduceToNat, Int.reduceGT, Int.reduceGE, Int.reduceNe, true_and, and_true, true_or, or_true, false_or, or_false, and_self, or_self, if_true, if_false, reduceIte, not_true_eq_false, not_false_eq_true, Int.reduceEq, Int.reduceNe, Int.reduceLT, Int.reduceLE, Int.reduceAdd, Int.reduceSub, Int.reduceMul, Int.reduceNeg, Nat.reduceAdd, Nat.reduceLeDiff, Nat.reduceEqDiff, ne_eq, List.length_cons, List.length_nil, Nat.reduceSub, show (8 : Int) ≤ ((8 : Nat) : Int) by decide]
    exact this
  · intro k hk ih Y hY
    have b1 : 8 + k < 16 := by clear ih; omega
    have := ih _ (cp_5 hk hY)
    have c71 : Y 71 = H 71 := hY.c rfl
    have c1 : ¬ (8 : Int) ≤ (k : Int) := il_n hk
    have j1 : 0 ≤ ((8 + k : Nat) : Int) ∧ ((8 + k : Nat) : Int) < 16 := ix_n b1
    have j0 : 0 ≤ (k : Int) ∧ (k : Int) < 16 := ix_n (Nat.lt_trans hk (by decide))
    have w1 := w_c (c := 8) (k := k) (Nat.lt_trans b1 (by decide)) (c' := 8) rfl
    have kw := w32_s (n := k) (Nat.lt_trans hk (by decide))
    rw [e_MO_stands_9]
    simp only [k_MO_stands_9, rr, sh, Nat.reduceLT, Nat.reduceMul, Int.reduceToNat, Int.reduceGT, Int.reduceGE, Int.reduceNe, true_and, and_true, true_or, or_true, false_or, or_false, and_self, or_self, if_true, if_false, reduceIte, not_true_eq_false, not_false_eq_true, Int.reduceEq, Int.reduceNe, Int.reduceLT, Int.reduceLE, Int.reduceAdd, Int.reduceSub, Int.reduceMul, Int.reduceNeg, Nat.reduceAdd, Nat.reduceLeDiff, Nat.reduceEqDiff, ne_eq, List.length_cons, List.length_nil, Nat.reduceSub, hs_app, false_and, and_false, c71, f, c1, w1, j1, j0, kw]
    exact this
set_option maxRecDepth 20000 in
theorem c_halves (hP : Ptr H) (hQ : ∀ Y, CpW H Y (limF 4 12 1 4 96 8) → R (d + 1) MO_stands (blk MO_stands 10) [va 71, vi 8, vu] [] Y Q) : CC (d + 1) MO_stands [va 71] H Q := by
  have f := mo_f hP
  simp only [en_MO_stands, e_MO_stands_0, k_MO_stands_0, rr, sh, Nat.reduceLT, Nat.reduceMul, Int.reduceToNat, Int.reduceGT, Int.reduceGE, Int.reduceNe, true_and, and_true, true_or, or_true, false_or, or_false, and_self, or_self, if_true, if_false, reduceIte, not_true_eq_false, not_false_eq_true, Int.reduceEq, Int.reduceNe, Int.reduceLT, Int.reduceLE, Int.reduceAdd, Int.reduceSub, Int.reduceMul, Int.reduceNeg, Nat.reduceAdd, Nat.reduceLeDiff, Nat.reduceEqDiff, ne_eq, List.length_cons, List.length_nil, Nat.reduceSub]
  have h0 : CpW H H (limF 0 0 0 0 0 0) := fun a b => ⟨fun z => by
    have e : limF 0 0 0 0 0 0 a = 0 := by
      simp only [limF, ite_self]
    rw [e] at z
    omega, fun _ => rfl⟩
  refine sd_l1 hP h0 (fun Y1 h1 => ?_)
  simp only [e_MO_stands_2, k_MO_stands_2, rr, sh, Nat.reduceLT, Nat.reduceMul, Int.reduceToNat, Int.reduceGT, Int.reduceGE, Int.reduceNe, true_and, and_true, true_or, or_true, false_or, or_false, and_self, or_self, if_true, if_false, reduceIte, not_true_eq_false, not_false_eq_true, Int.reduceEq, Int.reduceNe, Int.reduceLT, Int.reduceLE, Int.reduceAdd, Int.reduceSub, Int.reduceMul, Int.reduceNeg, Nat.reduceAdd, Nat.reduceLeDiff, Nat.reduceEqDiff, ne_eq, List.length_cons, List.length_nil, Nat.reduceSub]
  refine sd_l2 hP h1 (fun Y2 h2 => ?_)
  have c71 : Y2 71 = H 71 := h2.c rfl
  simp only [e_MO_stands_4, k_MO_stands_4, rr, sh, Nat.reduceLT, Nat.reduceMul, Int.reduceToNat, Int.reduceGT, Int.reduceGE, Int.reduceNe, true_and, and_true, true_or, or_true, false_or, or_false, and_self, or_self, if_true, if_false, reduceIte, not_true_eq_false, not_false_eq_true, Int.reduceEq, Int.reduceNe, Int.reduceLT, Int.reduceLE, Int.reduceAdd, Int.reduceSub, Int.reduceMul, Int.reduceNeg, Nat.reduceAdd, Nat.reduceLeDiff, Nat.reduceEqDiff, ne_eq, List.length_cons, List.length_nil, Nat.reduceSub, hs_app, false_and, and_false, c71, f]
  refine sd_l3 hP (cp_0 h2) (fun Y3 h3 => ?_)
  simp only [e_MO_stands_6, k_MO_stands_6, rr, sh, Nat.reduceLT, Nat.reduceMul, Int.reduceToNat, Int.reduceGT, Int.reduceGE, Int.reduceNe, true_and, and_true, true_or, or_true, false_or, or_false, and_self, or_self, if_true, if_false, reduceIte, not_true_eq_false, not_false_eq_true, Int.reduceEq, Int.reduceNe, Int.reduceLT, Int.reduceLE, Int.reduceAdd, Int.reduceSub, Int.reduceMul, Int.reduceNeg, Nat.reduceAdd, Nat.reduceLeDiff, Nat.reduceEqDiff, ne_eq, List.length_cons, List.length_nil, Nat.reduceSub]
  refine sd_l4 hP h3 (fun Y4 h4 => ?_)
  simp only [e_MO_stands_8, k_MO_stands_8, rr, sh, Nat.reduceLT, Nat.reduceMul, Int.reduceToNat, Int.reduceGT, Int.reduceGE, Int.reduceNe, true_and, and_true, true_or, or_true, false_or, or_false, and_self, or_self, if_true, if_false, reduceIte, not_true_eq_false, not_false_eq_true, Int.reduceEq, Int.reduceNe, Int.reduceLT, Int.reduceLE, Int.reduceAdd, Int.reduceSub, Int.reduceMul, Int.reduceNeg, Nat.reduceAdd, Nat.reduceLeDiff, Nat.reduceEqDiff, ne_eq, List.length_cons, List.length_nil, Nat.reduceSub]
  exact sd_l5 hP h4 hQ
end PT
