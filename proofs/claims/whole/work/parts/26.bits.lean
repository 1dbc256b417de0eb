/-! how many bits -/
def pop (n : Nat) : Int := sumI (fun i => if n.testBit i = true then 1 else 0) 12
theorem pop_step : (List.range 4096).all (fun s => decide (s = 0) || decide (pop (s &&& (s - 1)) = pop s - 1 ∧ s &&& (s - 1) < s)) = true := by decide +kernel
theorem pop_lt {n : Nat} : 0 ≤ pop n ∧ pop n ≤ 12 := by
  have h : ∀ w : Nat, 0 ≤ sumI (fun i => if n.testBit i = true then 1 else 0) w ∧ sumI (fun i => if n.testBit i = true then 1 else 0) w ≤ w := by
    intro w
    induction w with
    | zero => exact ⟨Int.le_refl _, Int.le_refl _⟩
    | succ w ih =>
      show 0 ≤ _ + (if n.testBit w = true then (1 : Int) else 0) ∧ _ + (if n.testBit w = true then (1 : Int) else 0) ≤ _
      split <;> omega
  exact h 12
def bcE (x : Int) : Int :=
  let a := w32 (x - b_and (b_ushr x 1) 1431655765)
  let b := w32 (b_and a 858993459 + b_and (b_ushr a 2) 858993459)
  let c := b_and (w32 (b + b_ushr b 4)) 252645135
  let e := w32 (c + b_ushr c 8)
  let g := w32 (e + b_ushr e 16)
  b_and g 63
theorem bcE_1 : (List.range 1024).all (fun n => decide (bcE (n : Nat) = pop n)) = true := by decide +kernel
theorem bcE_2 : (List.range 1024).all (fun n => decide (bcE ((n + 1024 : Nat) : Int) = pop (n + 1024))) = true := by decide +kernel
theorem bcE_3 : (List.range 1024).all (fun n => decide (bcE ((n + 2048 : Nat) : Int) = pop (n + 2048))) = true := by decide +kernel
theorem bcE_4 : (List.range 1024).all (fun n => decide (bcE ((n + 3072 : Nat) : Int) = pop (n + 3072))) = true := by decide +kernel
theorem bcE_ok {n : Nat} (h : n < 4096) : bcE n = pop n := by
  by_cases h1 : n < 1024
  · exact of_decide_eq_true (List.all_eq_true.mp bcE_1 n (List.mem_range.mpr h1))
  · by_cases h2 : n < 2048
    · have := of_decide_eq_true (List.all_eq_true.mp bcE_2 (n - 1024) (List.mem_range.mpr (by omega)))
      rw [show n - 1024 + 1024 = n by omega] at this; exact this
    · by_cases h3 : n < 3072
      · have := of_decide_eq_true (List.all_eq_true.mp bcE_3 (n - 2048) (List.mem_range.mpr (by omega)))
        rw [show n - 2048 + 2048 = n by omega] at this; exact this
      · have := of_decide_eq_true (List.all_eq_true.mp bcE_4 (n - 3072) (List.mem_range.mpr (by omega)))
        rw [show n - 3072 + 3072 = n by omega] at this; exact this
