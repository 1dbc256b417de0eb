/-! PURE NUMBERS: wrap-around, bits, sums; loops by count -/
theorem w32_id {x : Int} (h1 : -2147483648 ≤ x) (h2 : x < 2147483648) : w32 x = x := by unfold w32; omega
theorem w64_id {x : Int} (h1 : -9223372036854775808 ≤ x) (h2 : x < 9223372036854775808) : w64 x = x := by unfold w64; omega
theorem w32_rng (x : Int) : -2147483648 ≤ w32 x ∧ w32 x < 2147483648 := by unfold w32; omega
theorem w64_rng (x : Int) : -9223372036854775808 ≤ w64 x ∧ w64 x < 9223372036854775808 := by unfold w64; omega
theorem w64_w64 (x : Int) : w64 (w64 x) = w64 x := by unfold w64; omega
theorem w32_w32 (x : Int) : w32 (w32 x) = w32 x := by unfold w32; omega
theorem w64_al (a b : Int) : w64 (w64 a + b) = w64 (a + b) := by unfold w64; omega
theorem w64_ar (a b : Int) : w64 (a + w64 b) = w64 (a + b) := by unfold w64; omega
theorem w64_sl (a b : Int) : w64 (w64 a - b) = w64 (a - b) := by unfold w64; omega
theorem w64_sr (a b : Int) : w64 (a - w64 b) = w64 (a - b) := by unfold w64; omega
theorem w64_neg (a : Int) : w64 (-w64 a) = w64 (-a) := by unfold w64; omega
theorem w64_mr (a b : Int) : w64 (a * w64 b) = w64 (a * b) := by
  obtain ⟨k, h⟩ := w64_k b
  exact w64_cong ⟨a * k, by rw [h]; grind⟩
theorem w64_ml (a b : Int) : w64 (w64 a * b) = w64 (a * b) := by
  obtain ⟨k, h⟩ := w64_k a
  exact w64_cong ⟨b * k, by rw [h]; grind⟩
theorem w32_al (a b : Int) : w32 (w32 a + b) = w32 (a + b) := by unfold w32; omega
theorem w32_ar (a b : Int) : w32 (a + w32 b) = w32 (a + b) := by unfold w32; omega
theorem w32_nat {n : Nat} (h : n < 2147483648) : w32 (n : Int) = n := w32_id (by omega) (by omega)
theorem w32_s {n : Nat} (h : n < 2147483647) : w32 ((n : Int) + 1) = ((n + 1 : Nat) : Int) := by rw [w32_id (by omega) (by omega)]; omega
theorem w32_p {n : Nat} (h0 : 0 < n) (h : n < 2147483647) : w32 ((n : Int) + -1) = ((n - 1 : Nat) : Int) := by rw [w32_id (by omega) (by omega)]; omega
/-! bits -/
theorem i32b (a : Nat) : (Int32.ofInt (a : Int)).toBitVec = BitVec.ofNat 32 a := by
  show BitVec.ofInt 32 (a : Int) = _
  exact BitVec.ofInt_natCast 32 a
theorem i64b (a : Nat) : (Int64.ofInt (a : Int)).toBitVec = BitVec.ofNat 64 a := by
  show BitVec.ofInt 64 (a : Int) = _
  exact BitVec.ofInt_natCast 64 a
theorem bv_int {w : Nat} {x : BitVec w} {n : Nat} (h : x.toNat = n) (hn : 2 * n < 2 ^ w) : x.toInt = (n : Int) := by
  rw [BitVec.toInt_eq_toNat_of_lt (by rw [h]; exact hn), h]
theorem b_and_nat {a b : Nat} (ha : a < 2147483648) (hb : b < 2147483648) : b_and a b = ((a &&& b : Nat) : Int) := by
  show (Int32.ofInt a &&& Int32.ofInt b).toBitVec.toInt = _
  rw [Int32.toBitVec_and, i32b, i32b]
  refine bv_int ?_ ?_
  · rw [BitVec.toNat_and, BitVec.toNat_ofNat, BitVec.toNat_ofNat, Nat.mod_eq_of_lt (by omega), Nat.mod_eq_of_lt (by omega)]
  · have := @Nat.and_le_left a b; omega
theorem nlt_or {a b n : Nat} (ha : a < 2 ^ n) (hb : b < 2 ^ n) : a ||| b < 2 ^ n := Nat.or_lt_two_pow ha hb
theorem nlt_xor {a b n : Nat} (ha : a < 2 ^ n) (hb : b < 2 ^ n) : a ^^^ b < 2 ^ n := Nat.xor_lt_two_pow ha hb
theorem b_or_nat {a b : Nat} (ha : a < 2147483648) (hb : b < 2147483648) : b_or a b = ((a ||| b : Nat) : Int) := by
  show (Int32.ofInt a ||| Int32.ofInt b).toBitVec.toInt = _
  rw [Int32.toBitVec_or, i32b, i32b]
  refine bv_int ?_ ?_
  · rw [BitVec.toNat_or, BitVec.toNat_ofNat, BitVec.toNat_ofNat, Nat.mod_eq_of_lt (by omega), Nat.mod_eq_of_lt (by omega)]
  · have := nlt_or (n := 31) ha hb; omega
theorem b_xor_nat {a b : Nat} (ha : a < 2147483648) (hb : b < 2147483648) : b_xor a b = ((a ^^^ b : Nat) : Int) := by
  show (Int32.ofInt a ^^^ Int32.ofInt b).toBitVec.toInt = _
  rw [Int32.toBitVec_xor, i32b, i32b]
  refine bv_int ?_ ?_
  · rw [BitVec.toNat_xor, BitVec.toNat_ofNat, BitVec.toNat_ofNat, Nat.mod_eq_of_lt (by omega), Nat.mod_eq_of_lt (by omega)]
  · have := nlt_xor (n := 31) ha hb; omega
theorem shv (k : Nat) (h : k < 32) : ((Int32.ofInt (k : Int) &&& 31).toBitVec.smod 32).toNat = k := by
  have : ∀ k : Nat, k < 32 → ((Int32.ofInt (k : Int) &&& 31).toBitVec.smod 32).toNat = k := by decide +kernel
  exact this k h
theorem b_shl_nat {a k : Nat} (hk : k < 32) (h : a * 2 ^ k < 2147483648) : b_shl a k = ((a * 2 ^ k : Nat) : Int) := by
  have ha : a < 2147483648 := Nat.lt_of_le_of_lt (Nat.le_mul_of_pos_right a (Nat.two_pow_pos k)) h
  show ((Int32.ofInt a).toBitVec <<< ((Int32.ofInt k &&& 31).toBitVec.smod 32)).toInt = _
  refine bv_int ?_ ?_
  · rw [BitVec.shiftLeft_eq', shv k hk, BitVec.toNat_shiftLeft, i32b, BitVec.toNat_ofNat, Nat.mod_eq_of_lt (by omega : a < 2 ^ 32), Nat.shiftLeft_eq, Nat.mod_eq_of_lt (by omega)]
  · omega
theorem b_shr_int (x : Int) {k : Nat} (h1 : -2147483648 ≤ x) (h2 : x < 2147483648) (hk : k < 32) : b_shr x k = x / 2 ^ k := by
  show ((Int32.ofInt x).toBitVec.sshiftRight' ((Int32.ofInt k &&& 31).toBitVec.smod 32)).toInt = _
  rw [BitVec.sshiftRight_eq', shv k hk, BitVec.toInt_sshiftRight, Int.shiftRight_eq_div_pow]
  have : (Int32.ofInt x).toBitVec.toInt = x := by
    show (Int32.ofInt x).toInt = x
    exact toInt_ofInt32 (decide_eq_true ⟨h1, h2⟩)
  rw [this]
  norm_cast
theorem b_shr_nat {a k : Nat} (ha : a < 2147483648) (hk : k < 32) : b_shr a k = ((a / 2 ^ k : Nat) : Int) := by
  rw [b_shr_int _ (by omega) (by omega) hk]
  norm_cast
theorem b_bit {a k : Nat} (ha : a < 2147483648) (hk : k < 32) : b_and (b_shr a k) 1 = if a.testBit k then 1 else 0 := by
  rw [b_shr_nat ha hk]
  have : b_and ((a / 2 ^ k : Nat) : Int) ((1 : Nat) : Int) = _ := b_and_nat (Nat.lt_of_le_of_lt (Nat.div_le_self _ _) ha) (by omega)
  rw [show ((1 : Nat) : Int) = 1 from rfl] at this
  rw [this, Nat.and_one_is_mod, Nat.testBit_eq_decide_div_mod_eq]
  by_cases h : a / 2 ^ k % 2 = 1
  · simp [h]
  · have : a / 2 ^ k % 2 = 0 := by omega
    simp [this]
/-- sums -/
def sumI (f : Nat → Int) : Nat → Int
  | 0 => 0
  | n + 1 => sumI f n + f n
theorem sumI_cg {f g : Nat → Int} : ∀ {n : Nat}, (∀ k, k < n → f k = g k) → sumI f n = sumI g n
  | 0, _ => rfl
  | n + 1, h => by show sumI f n + f n = sumI g n + g n; rw [sumI_cg (fun k hk => h k (by omega)), h n (by omega)]
theorem up_nat {P : Nat → Prop} {n : Nat} (hend : P n) (hstep : ∀ k, k < n → P (k + 1) → P k) : ∀ k, k ≤ n → P k := by
  intro k hk
  induction h : n - k generalizing k with
  | zero => have : k = n := by omega
            rw [this]; exact hend
  | succ m ih => exact hstep k (by omega) (ih (k + 1) (by omega) (by omega))
