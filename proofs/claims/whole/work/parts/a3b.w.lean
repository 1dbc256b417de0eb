/-! words of 32 bits over sums of naturals (no omega where an equation of w32 stands) -/
theorem w_add {a b : Nat} (h : a + b < 2147483648) : w32 ((a : Int) + b) = ((a + b : Nat) : Int) := w32_id (by omega) (by omega)
theorem w_sub {a b : Nat} (h : b ≤ a) (h2 : a < 2147483648) : w32 ((a : Int) - b) = ((a - b : Nat) : Int) := by rw [w32_id (by omega) (by omega)]; omega
theorem w_mul6 {a : Nat} (h : a < 1000000) : w32 ((a : Int) * 6) = ((6 * a : Nat) : Int) := by rw [w32_id (by omega) (by omega)]; omega
theorem w_mul12 {a : Nat} (h : a < 1000000) : w32 (12 * (a : Int)) = ((12 * a : Nat) : Int) := by rw [w32_id (by omega) (by omega)]; omega
theorem w_mul12' {a : Nat} (h : a < 1000000) : w32 ((a : Int) * 12) = ((12 * a : Nat) : Int) := by rw [w32_id (by omega) (by omega)]; omega
theorem w_let {c : Int} (h : -1 ≤ c ∧ c < 256) : w32 (w32 (c - 97) + 1) = c - 96 := by rw [w32_id (x := c - 97) (by omega) (by omega), w32_id (by omega) (by omega)]; omega
theorem il_n {a b : Nat} (h : b < a) : ¬ (a : Int) ≤ (b : Int) := by omega
theorem il_y {a b : Nat} (h : a ≤ b) : (a : Int) ≤ (b : Int) := by omega
theorem ix_n {a b : Nat} (h : a < b) : 0 ≤ (a : Int) ∧ (a : Int) < (b : Int) := by omega
theorem lt_sN {q k : Nat} (h : q < k + 1) (c : ¬ q = k) : q < k := Nat.lt_of_le_of_ne (Nat.le_of_lt_succ h) c
