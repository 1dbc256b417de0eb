/-! the lowest bit -/
/-- the lowest bit -/
def lwz (b : Nat) : Nat := ((List.range 12).find? (fun k => b.testBit k)).getD 0
def lwB (b : Nat) : Bool := decide (b = 0) || (decide (w32 (b_and b (w32 (-(b : Int))) - 1) = ((2 ^ lwz b - 1 : Nat) : Int)) && ((b.testBit (lwz b)) && (List.range 12).all (fun j => if j < lwz b then !b.testBit j && (b - 1).testBit j else if j = lwz b then !(b - 1).testBit j else (b - 1).testBit j == b.testBit j)))
theorem lwB_1 : (List.range 1024).all lwB = true := by decide +kernel
theorem lwB_2 : (List.range 1024).all (fun b => lwB (b + 1024)) = true := by decide +kernel
theorem lwB_3 : (List.range 1024).all (fun b => lwB (b + 2048)) = true := by decide +kernel
theorem lwB_4 : (List.range 1024).all (fun b => lwB (b + 3072)) = true := by decide +kernel
theorem lwB_ok {n : Nat} (h : n < 4096) : lwB n = true := by
  by_cases h1 : n < 1024
  · exact List.all_eq_true.mp lwB_1 n (List.mem_range.mpr h1)
  · by_cases h2 : n < 2048
    · have := List.all_eq_true.mp lwB_2 (n - 1024) (List.mem_range.mpr (by omega))
      rw [show n - 1024 + 1024 = n by omega] at this; exact this
    · by_cases h3 : n < 3072
      · have := List.all_eq_true.mp lwB_3 (n - 2048) (List.mem_range.mpr (by omega))
        rw [show n - 2048 + 2048 = n by omega] at this; exact this
      · have := List.all_eq_true.mp lwB_4 (n - 3072) (List.mem_range.mpr (by omega))
        rw [show n - 3072 + 3072 = n by omega] at this; exact this
theorem lw_spec0 {b : Nat} (h0 : b ≠ 0) (h : b < 4096) : lwz b < 12 ∧ w32 (b_and b (w32 (-(b : Int))) - 1) = ((2 ^ lwz b - 1 : Nat) : Int) ∧ b.testBit (lwz b) = true ∧ (b - 1).testBit (lwz b) = false ∧ (∀ j, j < lwz b → b.testBit j = false ∧ (b - 1).testBit j = true) ∧ ∀ j, lwz b < j → j < 12 → (b - 1).testBit j = b.testBit j := by
  have hl : lwz b < 12 := by
    unfold lwz
    cases e : (List.range 12).find? (fun k => b.testBit k) with
    | none => decide
    | some k => exact List.mem_range.mp (List.mem_of_find?_eq_some e)
  have := lwB_ok h
  unfold lwB at this
  simp only [h0, decide_false, Bool.false_or, Bool.and_eq_true, decide_eq_true_eq, List.all_eq_true, List.mem_range] at this
  obtain ⟨h1, h2, h3⟩ := this
  refine ⟨hl, h1, h2, ?_, fun j hj => ?_, fun j hj hj2 => ?_⟩
  · have := h3 _ hl
    rw [if_neg (Nat.lt_irrefl _), if_pos rfl] at this
    simpa using this
  · have := h3 j (by omega)
    rw [if_pos hj] at this
    simpa using this
  · have := h3 j hj2
    rw [if_neg (by omega), if_neg (by omega)] at this
    simpa using this
theorem pop_low : ∀ z : Nat, z < 12 → pop (2 ^ z - 1) = z ∧ 2 ^ z - 1 < 4096 := by decide +kernel
def LwS (b z : Nat) : Prop := z < 12 ∧ w32 (b_and b (w32 (-(b : Int))) - 1) = ((2 ^ z - 1 : Nat) : Int) ∧ b.testBit z = true ∧ (b - 1).testBit z = false ∧ (∀ j, j < z → b.testBit j = false ∧ (b - 1).testBit j = true) ∧ ∀ j, z < j → j < 12 → (b - 1).testBit j = b.testBit j
theorem lw_spec {b : Nat} (h0 : b ≠ 0) (h : b < 4096) : ∃ z, LwS b z := ⟨lwz b, lw_spec0 h0 h⟩
