/-! an act more in the ring -/
theorem sl_succ {m : Int} (h : 0 ≤ m ∧ m < 30) (i : Nat) : sl (mxt m) (i + 1) = sl m i ∧ sl (mxt m) 0 = mxt m ∧ sl (mxt m - 1) 0 = m ∧ sl (mxt m - 1) (i + 1) = sl (m - 1) i := by
  unfold sl mxt
  push_cast
  omega
theorem sl_ne {m : Int} (h : 0 ≤ m ∧ m < 30) {i : Nat} (hi : i < 29) : sl m i ≠ mxt m ∧ sl (m - 1) i ≠ m ∧ 0 ≤ sl m i ∧ sl m i < 30 := by
  unfold sl mxt
  omega
/-- the rings before and behind -/
def RingR (V V' : Hp) (k a b : Int) : Prop :=
  V' 71 56 = mxt (V 71 56) ∧ V' 71 55 = min 30 (V 71 55 + 1) ∧ V' 4 10 = mxt (V 71 56) ∧ V' 4 11 = min 30 (V 71 55 + 1) ∧ V' 91 = V 91 ∧ V' 94 = V 94 ∧
  (∀ j : Int, V' 108 j = if j = mxt (V 71 56) then V 71 47 else V 108 j) ∧ (∀ j : Int, V' 109 j = if j = mxt (V 71 56) then V 71 48 else V 109 j) ∧ (∀ j : Int, V' 110 j = if j = mxt (V 71 56) then V 71 49 else V 110 j) ∧
  (∀ j : Int, ∀ q : Nat, 0 ≤ j → j < 30 → q < 12 → V' 111 (12 * j + q) = if j = mxt (V 71 56) then V 107 q else V 111 (12 * j + q)) ∧
  (∀ j : Int, V' 20 j = if j = V 71 56 then k else V 20 j) ∧ (∀ j : Int, V' 21 j = if j = V 71 56 then a else V 21 j) ∧ (∀ j : Int, V' 22 j = if j = V 71 56 then b else V 22 j) ∧ (∀ j : Int, V' 23 j = if j = V 71 56 then V 71 48 else V 23 j)
theorem ActR.push {V V' : Hp} {k a b : Int} (h : ActR V) (hn : nS V ≤ 12) (hC : CrewM V) (hR : RingR V V' k a b) (h0 : ActI V' 0) : ActR V' := by
  obtain ⟨hm, -, -, c, hc, hc30, hi⟩ := h
  obtain ⟨r1, r2, r3, r4, r5, r6, r7, r8, r9, r10, r11, r12, r13, r14⟩ := hR
  have m' := (mxt_w hm).2
  have eS : nS V' = nS V := by unfold nS nN; rw [r5]
  have eR : nR V' = nR V := by unfold nR nN; rw [r5]
  have s0 := sl_succ hm 0
  have gK : ∀ i, i < 30 → snK V' (i + 1) = snK V i := by
    intro i hi30
    show V' 108 (sl (V' 71 56) i) = _
    rw [r1]
    cases i with
    | zero => rw [s0.2.1, r7, if_pos rfl]; rfl
    | succ i =>
      rw [(sl_succ hm i).1, r7, if_neg (sl_ne hm (by omega)).1]; rfl
  have gH : ∀ i, i < 30 → snH V' (i + 1) = snH V i := by
    intro i hi30
    show V' 109 (sl (V' 71 56) i) = _
    rw [r1]
    cases i with
    | zero => rw [s0.2.1, r8, if_pos rfl]; rfl
    | succ i =>
      rw [(sl_succ hm i).1, r8, if_neg (sl_ne hm (by omega)).1]; rfl
  have gD : ∀ i, i < 30 → snD V' (i + 1) = snD V i := by
    intro i hi30
    show V' 110 (sl (V' 71 56) i) = _
    rw [r1]
    cases i with
    | zero => rw [s0.2.1, r9, if_pos rfl]; rfl
    | succ i =>
      rw [(sl_succ hm i).1, r9, if_neg (sl_ne hm (by omega)).1]; rfl
  have gS : ∀ i, i < 30 → ∀ q, q < 12 → snS V' (i + 1) q = snS V i q := by
    intro i hi30 q hq
    show V' 111 (12 * sl (V' 71 56) i + q) = _
    rw [r1]
    cases i with
    | zero => rw [s0.2.1, r10 _ q m'.1 m'.2 hq, if_pos rfl]; rfl
    | succ i =>
      have n := sl_ne hm (show i < 29 by omega)
      rw [(sl_succ hm i).1, r10 _ q n.2.2.1 n.2.2.2 hq, if_neg n.1]; rfl
  have g20 : ∀ i, i < 29 → V' 20 (sl (V' 71 56 - 1) (i + 1)) = V 20 (sl (V 71 56 - 1) i) := fun i h => by rw [r1, (sl_succ hm i).2.2.2, r11, if_neg (sl_ne hm h).2.1]
  have g21 : ∀ i, i < 29 → V' 21 (sl (V' 71 56 - 1) (i + 1)) = V 21 (sl (V 71 56 - 1) i) := fun i h => by rw [r1, (sl_succ hm i).2.2.2, r12, if_neg (sl_ne hm h).2.1]
  have g22 : ∀ i, i < 29 → V' 22 (sl (V' 71 56 - 1) (i + 1)) = V 22 (sl (V 71 56 - 1) i) := fun i h => by rw [r1, (sl_succ hm i).2.2.2, r13, if_neg (sl_ne hm h).2.1]
  have g23 : ∀ i, i < 29 → V' 23 (sl (V' 71 56 - 1) (i + 1)) = V 23 (sl (V 71 56 - 1) i) := fun i h => by rw [r1, (sl_succ hm i).2.2.2, r14, if_neg (sl_ne hm h).2.1]
  have ok0 : OkI V 0 := ⟨hC.1, hC.2.2.2.2.2, ⟨sdV V, hC.2.1.1, hC.2.1.2⟩, hC.2.2.1, fun k h1 h2 => (hC.2.2.2.1 k h1 h2).imp id And.left⟩
  have okn : ∀ i, i < 30 → OkI V i → OkI V' (i + 1) := by
    intro i hi30 ho
    obtain ⟨o1, o2, o3, o4, o5⟩ := ho
    unfold OkI
    rw [gK i hi30, gH i hi30, gD i hi30, eS, eR]
    exact ⟨o1, o2, o3, fun q hq => by rw [gS i hi30 q (Nat.lt_of_lt_of_le hq hn)]; exact o4 q hq, fun q h1 h2 => by rw [gS i hi30 q h2]; exact o5 q h1 h2⟩
  refine ⟨by rw [r1]; exact m', by rw [r3, r1], by rw [r4, r2], min 30 (c + 1), by rw [r2, hc]; omega, by omega, fun i hi' => ?_⟩
  cases i with
  | zero => exact ⟨h0, okn 0 (by omega) ok0⟩
  | succ i =>
    have hic : i < c := by omega
    have hi29 : i < 29 := by omega
    obtain ⟨h1, h2⟩ := hi i hic
    refine ⟨?_, okn (i + 1) (by omega) h2⟩
    unfold ActI at h1 ⊢
    rw [g20 i hi29, g21 i hi29, g22 i hi29, g23 i hi29, gK i (by omega), gK (i + 1) (by omega), gH i (by omega), gH (i + 1) (by omega), gD i (by omega), gD (i + 1) (by omega), eS, r6]
    rcases h1 with ⟨a1, a2, a3, a4, a5⟩ | ⟨a1, ⟨s, r, b1, b2, b3, b4, b5, b6⟩, a3, a4, a5⟩ | ⟨a1, a2, a3, a4, a5⟩
    · exact Or.inl ⟨a1, a2, a3, a4, fun q hq => by rw [gS (i + 1) (by omega) q hq, gS i (by omega) q hq]; exact a5 q hq⟩
    · refine Or.inr (Or.inl ⟨a1, ⟨s, r, b1, b2, b3, b4, b5, fun q hq => ?_⟩, a3, a4, a5⟩)
      rw [gS (i + 1) (by omega) q hq, gS i (by omega) q hq, gS i (by omega) r (Nat.lt_of_lt_of_le b4 hn), gS i (by omega) s (Nat.lt_of_lt_of_le b3 hn)]
      exact b6 q hq
    · exact Or.inr (Or.inr ⟨a1, a2, a3, a4, fun q hq => by rw [gS (i + 1) (by omega) q hq, gS i (by omega) q hq]; exact a5 q hq⟩)
