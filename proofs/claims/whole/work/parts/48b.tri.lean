/-! names told twice; what trial runs tell, and the class's memory of it -/
/-- a name's number, from its letters -/
def nmV (L : Nat → Int) : Nat → Int
  | 0 => 0
  | q + 1 => 27 * nmV L q + L q
def NamR (V : Hp) : Prop := ∀ r : Nat, r < nR V → ∃ n : Nat, 1 ≤ n ∧ n ≤ 6 ∧ V 95 (12 + r) = nmV (fun q => V (V 4 0 + 4) ((6 * r + q : Nat) : Int)) n ∧ (∀ q : Nat, q < n → 1 ≤ V (V 4 0 + 4) ((6 * r + q : Nat) : Int) ∧ V (V 4 0 + 4) ((6 * r + q : Nat) : Int) ≤ 26) ∧ ∀ q : Nat, n ≤ q → q < 6 → V (V 4 0 + 4) ((6 * r + q : Nat) : Int) = 0
/-- what one more of a rower's strength brings to a run -/
def aTr (V : Hp) (r k : Nat) : Int := if k < mnV V then sidV V r k * lvr V (pwV V r) k else 0
def totT (V : Hp) (r : Nat) (t : Nat → Int) (k : Nat) : Int := sumI (fun j => aTr V r j * t j) k - V 104 (8 + r)
def fitT (V : Hp) (t : Nat → Int) : Bool := decide (∀ r : Nat, r < nU V → -V 99 1 ≤ totT V r t (nR V) ∧ totT V r t (nR V) ≤ V 99 1)
def SolV (V : Hp) (t : Nat → Int) : Prop := (∀ k : Nat, k < nR V → 1 ≤ t k ∧ t k ≤ 9) ∧ fitT V t = true
def dgT (m q : Nat) : Int := 1 + ((m / 9 ^ q % 9 : Nat) : Int)
def cntV (V : Hp) : Int := sumI (fun m => if fitT V (dgT m) = true then 1 else 0) (9 ^ nR V)
def LstOk (V : Hp) (q : Nat) (L : Int) : Prop := ∀ v : Int, L ≤ v ↔ ∃ t, SolV V t ∧ t q ≤ v
def MstOk (V : Hp) (q : Nat) (G : Int) : Prop := ∀ v : Int, v ≤ G ↔ ∃ t, SolV V t ∧ v ≤ t q
def TriR (V : Hp) : Prop := V 58 7 = 0 ∨ (V 58 7 = 1 ∧ nR V ≤ 6 ∧ V 58 8 = cntV V ∧ (cntV V ≠ 0 → ∀ q : Nat, q < nR V → LstOk V q (V 64 q) ∧ MstOk V q (V 65 q)))
theorem NamR.cg {V H : Hp} (h : NamR V) (e91 : H 91 = V 91) (e95 : H 95 = V 95) (e40 : H 4 0 = V 4 0) (ep : H (V 4 0 + 4) = V (V 4 0 + 4)) : NamR H := by
  unfold NamR nR nN at h ⊢
  rw [e91, e95, e40, ep]
  exact h
theorem TriR.cg {V H : Hp} (h : TriR V) (e7 : H 58 7 = V 58 7) (e8 : H 58 8 = V 58 8) (e64 : H 64 = V 64) (e65 : H 65 = V 65) (e91 : H 91 = V 91) (e92 : H 92 = V 92) (e93 : H 93 = V 93) (e99 : H 99 = V 99) (e102 : H 102 = V 102) (e103 : H 103 = V 103) (e104 : H 104 = V 104) : TriR H := by
  unfold TriR LstOk MstOk SolV cntV fitT totT aTr mnV sidV lvr pwV nS nR nU nN at h ⊢
  rw [e7, e8, e64, e65, e91, e92, e93, e99, e102, e103, e104]
  exact h
