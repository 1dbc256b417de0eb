/-! made: sets of places, least bits first -/
def cnB (b q : Nat) : Int := sumI (fun i => if b.testBit i = true then 1 else 0) q
def wsB (b q : Nat) : Int := sumI (fun i => if b.testBit i = true then (i : Int) + 1 else 0) q
def canP (p c s : Int) : Prop := (0 ≤ c ∧ c ≤ p) ∧ c * (c + 1) ≤ 2 * s ∧ 2 * s ≤ c * (2 * p - c + 1)
def SL : Nat → Int → Int → List Nat
  | 0, c, s => if c = 0 ∧ s = 0 then [0] else []
  | p + 1, c, s => SL p c s ++ (SL p (c - 1) (s - ((p : Int) + 1))).map (fun b => 2 ^ p + b)
theorem SL_can : ∀ {p : Nat} {c s : Int} {b : Nat}, b ∈ SL p c s → canP p c s
  | 0, c, s, b, h => by
    unfold SL at h
    by_cases e : c = 0 ∧ s = 0
    · rw [e.1, e.2]; unfold canP; decide
    · rw [if_neg e] at h; cases h
  | p + 1, c, s, b, h => by
    unfold SL at h
    rcases List.mem_append.mp h with h | h
    · obtain ⟨⟨h1, h2⟩, h3, h4⟩ := SL_can h
      refine ⟨⟨h1, by omega⟩, h3, ?_⟩
      have e : c * (2 * ((p + 1 : Nat) : Int) - c + 1) = c * (2 * (p : Int) - c + 1) + 2 * c := by push_cast; grind
      omega
    · obtain ⟨b', h', -⟩ := List.mem_map.mp h
      obtain ⟨⟨h1, h2⟩, h3, h4⟩ := SL_can h'
      refine ⟨⟨by omega, by omega⟩, ?_, ?_⟩
      · have e : c * (c + 1) = (c - 1) * (c - 1 + 1) + 2 * c := by grind
        omega
      · have e : c * (2 * ((p + 1 : Nat) : Int) - c + 1) = (c - 1) * (2 * (p : Int) - (c - 1) + 1) + 2 * p + 2 := by push_cast; grind
        omega
theorem SL_no {p : Nat} {c s : Int} (h : ¬ canP p c s) : SL p c s = [] := by
  cases e : SL p c s with
  | nil => rfl
  | cons b l => exact absurd (SL_can (b := b) (by rw [e]; exact List.mem_cons_self)) h
theorem SL_filter (p : Nat) : ∀ c s : Int, SL p c s = (List.range (2 ^ p)).filter (fun b => decide (cnB b p = c) && decide (wsB b p = s)) := by
  induction p with
  | zero =>
    intro c s
    show (if c = 0 ∧ s = 0 then [0] else []) = List.filter _ [0]
    have e1 : cnB 0 0 = 0 := rfl
    have e2 : wsB 0 0 = 0 := rfl
    by_cases h : c = 0 ∧ s = 0
    · rw [if_pos h, h.1, h.2]; simp [e1, e2]
    · rw [if_neg h]
      have : ¬ (0 = c ∧ 0 = s) := fun z => h ⟨z.1.symm, z.2.symm⟩
      simp [e1, e2]
      intro a b
      exact this ⟨a, b⟩
  | succ p ih =>
    intro c s
    have e : (2 : Nat) ^ (p + 1) = 2 ^ p + 2 ^ p := by rw [Nat.pow_succ]; omega
    rw [e, List.range_add, List.filter_append, List.filter_map]
    show SL p c s ++ _ = _
    rw [ih c s, ih (c - 1)]
    congr 1
    · refine List.filter_congr fun b hb => ?_
      have hb' := List.mem_range.mp hb
      have t : b.testBit p = false := Nat.testBit_lt_two_pow hb'
      have e1 : cnB b (p + 1) = cnB b p := by show cnB b p + (if b.testBit p = true then 1 else 0) = _; rw [t]; simp
      have e2 : wsB b (p + 1) = wsB b p := by show wsB b p + (if b.testBit p = true then (p : Int) + 1 else 0) = _; rw [t]; simp
      rw [e1, e2]
    · congr 1
      refine List.filter_congr fun b hb => ?_
      have hb' := List.mem_range.mp hb
      have t : (2 ^ p + b).testBit p = true := by rw [Nat.testBit_two_pow_add_eq, Nat.testBit_lt_two_pow hb']; rfl
      have tl : ∀ i, i < p → (2 ^ p + b).testBit i = b.testBit i := fun i hi => Nat.testBit_two_pow_add_gt hi b
      have e1 : cnB (2 ^ p + b) (p + 1) = cnB b p + 1 := by
        show cnB (2 ^ p + b) p + (if (2 ^ p + b).testBit p = true then 1 else 0) = _
        rw [t, if_pos rfl]
        congr 1
        exact sumI_cg (fun k hk => by rw [tl k hk])
      have e2 : wsB (2 ^ p + b) (p + 1) = wsB b p + ((p : Int) + 1) := by
        show wsB (2 ^ p + b) p + (if (2 ^ p + b).testBit p = true then (p : Int) + 1 else 0) = _
        rw [t, if_pos rfl]
        congr 1
        exact sumI_cg (fun k hk => by rw [tl k hk])
      show _ = (decide (cnB (2 ^ p + b) (p + 1) = c) && decide (wsB (2 ^ p + b) (p + 1) = s))
      rw [e1, e2]
      have f1 : (cnB b p = c - 1) = (cnB b p + 1 = c) := propext ⟨fun z => by omega, fun z => by omega⟩
      have f2 : (wsB b p = s - ((p : Int) + 1)) = (wsB b p + ((p : Int) + 1) = s) := propext ⟨fun z => by omega, fun z => by omega⟩
      simp only [f1, f2]
theorem cn_rng (b n : Nat) : 0 ≤ cnB b n ∧ cnB b n ≤ n := by
  induction n with
  | zero => exact ⟨Int.le_refl _, Int.le_refl _⟩
  | succ n ih =>
    show 0 ≤ cnB b n + (if b.testBit n = true then 1 else 0) ∧ cnB b n + (if b.testBit n = true then 1 else 0) ≤ _
    split <;> omega
theorem ws_rng (b n : Nat) : 0 ≤ wsB b n ∧ 2 * wsB b n ≤ n * ((n : Int) + 1) := by
  induction n with
  | zero => exact ⟨Int.le_refl _, Int.le_refl _⟩
  | succ n ih =>
    have e : ((n + 1 : Nat) : Int) * (((n + 1 : Nat) : Int) + 1) = n * ((n : Int) + 1) + 2 * ((n : Int) + 1) := by push_cast; grind
    rw [e]
    show 0 ≤ wsB b n + (if b.testBit n = true then (n : Int) + 1 else 0) ∧ 2 * (wsB b n + (if b.testBit n = true then (n : Int) + 1 else 0)) ≤ _
    generalize (n : Int) * ((n : Int) + 1) = y at ih ⊢
    split <;> omega
theorem sb0 (b n : Nat) : sumI (fun k => sgn (b.testBit k) (((k : Int) + 1) ^ 0)) n = 2 * cnB b n - n := by
  induction n with
  | zero => rfl
  | succ n ih =>
    show _ + sgn (b.testBit n) (((n : Int) + 1) ^ 0) = 2 * (cnB b n + (if b.testBit n = true then 1 else 0)) - _
    rw [ih, Int.pow_zero]
    unfold sgn
    split <;> omega
theorem sb1 (b n : Nat) : 2 * sumI (fun k => sgn (b.testBit k) (((k : Int) + 1) ^ 1)) n = 4 * wsB b n - n * ((n : Int) + 1) := by
  induction n with
  | zero => rfl
  | succ n ih =>
    have e : ((n + 1 : Nat) : Int) * (((n + 1 : Nat) : Int) + 1) = n * ((n : Int) + 1) + 2 * ((n : Int) + 1) := by push_cast; grind
    have e1 : ((n : Int) + 1) ^ 1 = (n : Int) + 1 := by grind
    show 2 * (_ + sgn (b.testBit n) (((n : Int) + 1) ^ 1)) = 4 * (wsB b n + (if b.testBit n = true then (n : Int) + 1 else 0)) - _
    rw [e, e1]
    generalize (n : Int) * ((n : Int) + 1) = y at ih ⊢
    generalize sumI (fun k => sgn (b.testBit k) (((k : Int) + 1) ^ 1)) n = x at ih ⊢
    unfold sgn
    split <;> omega
def gdB (n b : Nat) : Bool := decide (sbV n b 0 = 0) && decide (sbV n b 1 = 0)
def gdL (n : Nat) : List Nat := (List.range (2 ^ n)).filter (gdB n)
theorem gd_iff {n b : Nat} (hn : n ≤ 16) : gdB n b = (decide (2 * cnB b n = n) && decide (4 * wsB b n = n * ((n : Int) + 1))) := by
  have h0 := sb0 b n
  have h1 := sb1 b n
  have r0 := cn_rng b n
  have r1 := ws_rng b n
  have hb : (n : Int) * ((n : Int) + 1) ≤ 16 * 17 ∧ 0 ≤ (n : Int) * ((n : Int) + 1) := ⟨Int.mul_le_mul (by omega) (by omega) (by omega) (by decide), Int.mul_nonneg (by omega) (by omega)⟩
  have w0 : sbV n b 0 = 2 * cnB b n - n := by unfold sbV; rw [h0]; exact w64_id (by clear h0 h1; omega) (by clear h0 h1; omega)
  have w1 : 2 * sbV n b 1 = 4 * wsB b n - n * ((n : Int) + 1) := by
    unfold sbV
    rw [← h1]
    congr 1
    generalize (n : Int) * ((n : Int) + 1) = y at r1 hb h1
    generalize sumI (fun k => sgn (b.testBit k) (((k : Int) + 1) ^ 1)) n = x at h1 ⊢
    exact w64_id (by clear h0 w0; omega) (by clear h0 w0; omega)
  unfold gdB
  have f1 : (sbV n b 0 = 0) = (2 * cnB b n = n) := propext (by rw [w0]; constructor <;> intro z <;> omega)
  have f2 : (sbV n b 1 = 0) = (4 * wsB b n = n * ((n : Int) + 1)) := by
    generalize (n : Int) * ((n : Int) + 1) = y at w1 ⊢
    generalize sbV n b 1 = x at w1 ⊢
    exact propext ⟨fun z => by clear h0 h1 w0 f1; omega, fun z => by clear h0 h1 w0 f1; omega⟩
  simp only [f1, f2]
theorem gdL_4 {n : Nat} (hn : n ≤ 16) (h : n % 4 = 0) : gdL n = SL n ((n / 2 : Nat) : Int) ((n * (n + 1) / 4 : Nat) : Int) := by
  rw [SL_filter]
  unfold gdL
  refine List.filter_congr fun b _ => ?_
  rw [gd_iff hn]
  obtain ⟨m, rfl⟩ : ∃ m, n = 4 * m := ⟨n / 4, by omega⟩
  have e1 : 4 * m / 2 = 2 * m := by omega
  have e2 : 4 * m * (4 * m + 1) / 4 = m * (4 * m + 1) := by rw [Nat.mul_assoc]; omega
  have e3 : ((4 * m : Nat) : Int) * (((4 * m : Nat) : Int) + 1) = 4 * ((m * (4 * m + 1) : Nat) : Int) := by push_cast; grind
  rw [e1, e2, e3]
  generalize m * (4 * m + 1) = y
  have f1 : (2 * cnB b (4 * m) = ((4 * m : Nat) : Int)) = (cnB b (4 * m) = ((2 * m : Nat) : Int)) := propext ⟨fun z => by omega, fun z => by omega⟩
  have f2 : (4 * wsB b (4 * m) = 4 * (y : Int)) = (wsB b (4 * m) = (y : Int)) := propext ⟨fun z => by omega, fun z => by omega⟩
  simp only [f1, f2]
theorem gdL_no {n : Nat} (hn : n ≤ 16) (h : n % 4 ≠ 0) : gdL n = [] := by
  unfold gdL
  refine List.filter_eq_nil_iff.mpr fun b _ => ?_
  rw [gd_iff hn]
  have hd : ∀ n : Nat, n ≤ 16 → n % 4 ≠ 0 → n % 2 = 1 ∨ n * (n + 1) % 4 ≠ 0 := by decide +kernel
  rcases hd n hn h with q | q
  · have : ¬ 2 * cnB b n = n := by omega
    simp [this]
  · have : ¬ 4 * wsB b n = n * ((n : Int) + 1) := by
      have e : (n : Int) * ((n : Int) + 1) = ((n * (n + 1) : Nat) : Int) := by push_cast; rfl
      rw [e]
      generalize n * (n + 1) = y at q ⊢
      omega
    simp [this]
theorem filter_at {g : Nat → Bool} {N b : Nat} (hb : b < N) (h : g b = true) : ((List.range N).filter g)[((List.range b).filter g).length]? = some b := by
  obtain ⟨m, rfl⟩ : ∃ m, N = b + 1 + m := ⟨N - (b + 1), by omega⟩
  rw [List.range_add, List.filter_append, List.range_succ, List.filter_append, List.append_assoc]
  rw [List.getElem?_append_right (Nat.le_refl _), Nat.sub_self]
  simp [h]
theorem filter_s {g : Nat → Bool} {b : Nat} : ((List.range (b + 1)).filter g).length = ((List.range b).filter g).length + if g b = true then 1 else 0 := by
  rw [List.range_succ, List.filter_append, List.length_append]
  by_cases h : g b = true <;> simp [h]
def oI (o : Option Nat) : Int := match o with
  | some b => b
  | none => -1
def madeS (n k : Int) : Int := if (1 ≤ n ∧ n ≤ 16) ∧ 0 ≤ k then oI (gdL n.toNat)[k.toNat]? else -1
