/-! THE READING: a number's digits -/
/-- the number that k digits from b on tell -/
def nuV (V : Hp) (b : Nat) : Nat → Int
  | 0 => 0
  | k + 1 => 10 * nuV V b k + bz V (b + k) - 48
/-- where the digits from b on end, five at most -/
def dgE (V : Hp) (b : Nat) : Nat := runE dgB V 5 b
theorem dgB_rng {c : Int} (h : dgB c = true) : 48 ≤ c ∧ c ≤ 57 := of_decide_eq_true h
theorem nuV_rng {V : Hp} {b : Nat} : ∀ k : Nat, k ≤ 5 → (∀ i : Nat, i < k → dgB (bz V (b + i)) = true) → 0 ≤ nuV V b k ∧ nuV V b k < 10 ^ k
  | 0, _, _ => ⟨Int.le_refl 0, by show (0 : Int) < 10 ^ 0; decide⟩
  | k + 1, hk, h => by
    have h1 := nuV_rng k (by omega) (fun i hi => h i (by omega))
    have h2 := dgB_rng (h k (by omega))
    have e : (10 : Int) ^ (k + 1) = 10 * 10 ^ k := by rw [Int.pow_succ, Int.mul_comm]
    rw [e]
    show 0 ≤ 10 * nuV V b k + bz V (b + k) - 48 ∧ 10 * nuV V b k + bz V (b + k) - 48 < 10 * 10 ^ k
    generalize (10 : Int) ^ k = T at *
    omega
theorem ten_le {k : Nat} (h : k ≤ 5) : (10 : Int) ^ k ≤ 100000 := by
  have : ∀ k : Nat, k ≤ 5 → (10 : Int) ^ k ≤ 100000 := by decide
  exact this k h
theorem nuV_le {V : Hp} {b k : Nat} (hk : k ≤ 5) (h : ∀ i : Nat, i < k → dgB (bz V (b + i)) = true) : 0 ≤ nuV V b k ∧ nuV V b k ≤ 99999 := by
  have h1 := nuV_rng k hk h
  have h2 := ten_le hk
  generalize (10 : Int) ^ k = T at *
  omega
theorem dgE_go {V : Hp} {a f : Nat} (hp : dgB (bz V a) = true) : runE dgB V (f + 1) a = runE dgB V f (a + 1) := by
  show (if dgB (bz V a) = true then runE dgB V f (a + 1) else a) = _
  rw [if_pos hp]
theorem dgE_no {V : Hp} {a : Nat} (f : Nat) (hp : dgB (bz V a) = false) : runE dgB V f a = a := by
  cases f with
  | zero => rfl
  | succ f =>
    show (if dgB (bz V a) = true then runE dgB V f (a + 1) else a) = _
    rw [if_neg (by rw [hp]; decide)]
theorem nu_w {v c : Int} (h : 0 ≤ v ∧ v ≤ 99999) (h2 : -1 ≤ c ∧ c < 256) : w32 (w32 (w32 (v * 10) + c) - 48) = 10 * v + c - 48 := by
  rw [w32_id (x := v * 10) (by omega) (by omega), w32_id (x := v * 10 + c) (by omega) (by omega), w32_id (by omega) (by omega), Int.mul_comm]
def sLX (a b : Int) : Bool := if a = 2 then (decide (2 ≤ b) && decide (b ≤ 7)) else false
/-- a number may stand behind the blanks at a -/
def dgH (V : Hp) (a : Nat) (j : Int) : Bool := dgB (bz V (skE V a)) && decide ((skE V a : Int) ≠ j)
