/-! THE STATE between calls, told in the reference's own cells -/
def nN (V : Hp) (j : Int) : Nat := (V 91 j).toNat
def nS (V : Hp) : Nat := nN V 4
def nR (V : Hp) : Nat := nN V 5
def nU (V : Hp) : Nat := nN V 6
def nY (V : Hp) : Nat := nN V 7
def eaV (V : Hp) : Int := if V 71 46 = 0 then -1 else V 98 1
/-- the boat as the reference has it: all in its bounds -/
def BoatM (V : Hp) : Prop :=
  (V 91 4 = nS V ∧ nS V ≤ 12) ∧ (V 91 5 = nR V ∧ nR V ≤ 12) ∧ (V 91 6 = nU V ∧ nU V ≤ 8) ∧ (V 91 7 = nY V ∧ nY V ≤ 12) ∧
  (∀ k : Nat, k < nS V → 1 ≤ V 92 (12 + k) ∧ V 92 (12 + k) ≤ 99) ∧ (∀ k : Nat, k < nS V → 1 ≤ V 93 (12 + k) ∧ V 93 (12 + k) ≤ 99) ∧ (∀ k : Nat, k < nS V → 0 ≤ V 94 (12 + k) ∧ V 94 (12 + k) ≤ 2) ∧
  (∀ k : Nat, k < nR V → 1 ≤ V 96 (12 + k) ∧ V 96 (12 + k) ≤ 99) ∧ (∀ k : Nat, k < nR V → 0 ≤ V 97 (12 + k) ∧ V 97 (12 + k) ≤ 9) ∧
  (V 71 46 = 0 ∨ V 71 46 = 1) ∧ (-1 ≤ eaV V ∧ eaV V ≤ 12) ∧ (0 ≤ V 99 1 ∧ V 99 1 ≤ 9999) ∧
  (∀ q : Nat, q < 4 → V 100 (4 + q) = 0 ∨ V 100 (4 + q) = 1) ∧ (∀ q : Nat, q < 4 → V 100 (4 + q) = 1 → -9999 ≤ V 101 (4 + q) ∧ V 101 (4 + q) ≤ 9999) ∧
  (∀ r : Nat, r < nU V → 0 ≤ V 103 (8 + r) ∧ V 103 (8 + r) ≤ 3) ∧ (∀ r : Nat, r < nU V → -99999 ≤ V 104 (8 + r) ∧ V 104 (8 + r) ≤ 99999) ∧
  (∀ k : Nat, k < nY V → 1 ≤ V 105 (12 + k) ∧ V 105 (12 + k) ≤ 999) ∧ (∀ k : Nat, k < nY V → 0 ≤ V 106 (12 + k) ∧ V 106 (12 + k) ≤ 999)
def sdV (V : Hp) : Nat := (V 71 49).toNat
/-- who sits where, and the rest that acts change -/
def CrewM (V : Hp) : Prop :=
  (0 ≤ V 71 47 ∧ V 71 47 ≤ 9999) ∧ (V 71 49 = sdV V ∧ sdV V < 2 ^ nS V) ∧ (∀ k : Nat, k < nS V → -1 ≤ V 107 k ∧ V 107 k < nR V) ∧ (∀ k : Nat, nS V ≤ k → k < 12 → V 107 k = -1 ∨ (nS V = 0 ∧ V 107 k = 0 ∧ V 96 12 = 0 ∧ V 97 12 = 0)) ∧ (0 ≤ V 71 57 ∧ V 71 57 < 2147483648) ∧ (-9223372036854775808 ≤ V 71 48 ∧ V 71 48 < 9223372036854775808)
/-- the class's plan at p tells the same boat -/
def PlanC (V : Hp) (p : Int) : Prop :=
  V p 0 = nS V ∧ V p 6 = nR V ∧ V p 13 = nU V ∧ V p 17 = nY V ∧ V p 10 = eaV V ∧ V p 12 = V 99 1 ∧
  (∀ k : Nat, k < nS V → V (p + 1) k = V 92 (12 + k)) ∧ (∀ k : Nat, k < nS V → V (p + 2) k = V 93 (12 + k)) ∧
  (∀ q k : Nat, q < 4 → k < nS V → V (p + 3) (12 * q + k) = V 93 (12 + k) * V 92 (12 + k) ^ q) ∧
  (∃ f g : Nat, V p 4 = f ∧ V p 5 = g ∧ f < 2 ^ nS V ∧ g < 2 ^ nS V ∧ ∀ k : Nat, k < nS V → (f.testBit k = decide (V 94 (12 + k) = 1) ∧ g.testBit k = decide (V 94 (12 + k) = 2))) ∧
  (∀ k : Nat, k < nR V → V (p + 5) k = V 96 (12 + k)) ∧ (∀ k : Nat, k < nR V → V (p + 6) k = V 97 (12 + k)) ∧
  (∀ q : Nat, q < 4 → V (p + 7) q = if V 100 (4 + q) = 1 then V 101 (4 + q) else -1000000000000000) ∧
  (∀ r k : Nat, r < nU V → k < 12 → V (p + 8) (12 * r + k) = if V 102 (96 + 12 * r + k) = 2 then 1 else if V 102 (96 + 12 * r + k) = 1 then -1 else 0) ∧
  (∀ r : Nat, r < nU V → V (p + 9) r = V 103 (8 + r)) ∧ (∀ r : Nat, r < nU V → V (p + 10) r = V 104 (8 + r)) ∧
  (∀ k : Nat, k < nY V → V (p + 11) k = V 105 (12 + k)) ∧ (∀ k : Nat, k < nY V → V (p + 12) k = V 106 (12 + k))
def CrewC (V : Hp) : Prop :=
  (V 4 0 = 5 ∨ V 4 0 = 25) ∧ V 1 2 = 30 - V 4 0 ∧ V 4 3 = V 71 47 ∧ V 4 4 = V 71 48 ∧ V 4 5 = V 71 57 ∧ (∀ k : Nat, k < nS V → V 18 k = V 107 k) ∧ (∀ k : Nat, k < nS V → V 19 k = if (sdV V).testBit k then 1 else 0)
/-- what most questions stand on -/
def Inq (V : Hp) : Prop := Ptr V ∧ BoatM V ∧ CrewM V ∧ PlanC V (V 4 0) ∧ CrewC V
/-! swings -/
def stg (V : Hp) (r t : Int) : Int := max 0 (V 96 (12 + r) - V 97 (12 + r) * (t / 10))
/-- the strength in a seat -/
def frc (V : Hp) (k : Nat) (t : Int) : Int := if V 107 k = -1 then 0 else stg V (V 107 k) t
def sgn (b : Bool) (x : Int) : Int := if b then x else -x
def lvr (V : Hp) (q k : Nat) : Int := V 93 (12 + k) * V 92 (12 + k) ^ q
def sww (V : Hp) (q by_ : Nat) (t : Int) : Int := sumI (fun k => sgn (by_.testBit k) (frc V k t * lvr V q k)) (nS V)
theorem ex_det {n n' d m : Nat} {is : List AI} {ls st : List AV} {H : Hp} {v v' : AV × Hp} (h : ex n d m is ls st H = some v) (h' : ex n' d m is ls st H = some v') : v = v' := by
  have h1 := ex_le (Nat.le_add_right n n') h
  have h2 := ex_le (Nat.le_add_left n' n) h'
  rw [h1] at h2
  exact Option.some.inj h2
theorem CC_det {d m : Nat} {args : List AV} {H H' : Hp} {r : AV} (h : CC d m args H (fun r1 H1 => r1 = r ∧ H1 = H')) {Q : AV → Hp → Prop} : CC d m args H Q = Q r H' := by
  obtain ⟨hw, n, r1, H1, e, rfl, rfl⟩ := h
  refine propext ⟨fun ⟨_, n2, r2, H2, e2, q⟩ => ?_, fun q => ⟨hw, n, r1, H1, e, q⟩⟩
  have := ex_det e e2
  cases this
  exact q
theorem R_cg {d m : Nat} {is : List AI} {ls ls' st : List AV} {H H' : Hp} {Q : AV → Hp → Prop} (h : R d m is ls st H Q) (h1 : ls' = ls) (h2 : H' = H) : R d m is ls' st H' Q := by rw [h1, h2]; exact h
theorem ite10_0 {c : Prop} [Decidable c] : ((if c then (1 : Int) else 0) = 0) = ¬ c := by by_cases h : c <;> simp [h]
theorem ite10_1 {c : Prop} [Decidable c] : ((if c then (1 : Int) else 0) = 1) = c := by by_cases h : c <;> simp [h]
theorem ite10_01 {c : Prop} [Decidable c] : ((if c then (1 : Int) else 0) = 0 ∨ (if c then (1 : Int) else 0) = 1) = True := by by_cases h : c <;> simp [h]
