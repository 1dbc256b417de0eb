/-! ways, the class's: all of them counted once -/
def sHV (a b : Int) : Bool := if a = 67 then true else if a = 68 then true else if a = 66 then decide (b = 2) else false
/-- what the class keeps of its ways -/
def HvOk (H : Hp) : Prop := (H 66 2 = 0 ∧ (∀ j : Nat, j < 8631 → H 67 j = 0) ∧ ∀ m : Nat, m ≤ 40 → H 68 m = 0) ∨ (H 66 2 = 1 ∧ ∀ m : Nat, 1 ≤ m → m ≤ 40 → H 68 m = wayV m)
theorem ckT_top {H : Hp} {c : Int} {S p : Nat} (h : ckT H c 20 S p 20 S) : ckT H c 20 S p (min (p + 1) 20) S := by
  intro i j hi hj
  have n1 : ¬ (20 < i ∨ (i = 20 ∧ S < j)) := by omega
  rw [h i j hi hj, if_neg n1]
  by_cases h2 : min (p + 1) 20 < i ∨ (i = min (p + 1) 20 ∧ S < j)
  · have n2 : p + 1 < i := by omega
    rw [if_pos h2, ck_big p i j (by omega), ck_big (p + 1) i j n2]
  · rw [if_neg h2]
def w68 (H : Hp) (p : Nat) : Prop := ∀ m : Nat, 1 ≤ m → m ≤ 40 → H 68 m = if m ≤ p then wayV m else 0
theorem w68_next {H : Hp} {p : Nat} {x : Int} (hp : p < 40) (h : w68 H p) (hx : x = wayV (p + 1)) : w68 (hs H 68 ((p + 1 : Nat) : Int) x) (p + 1) := by
  intro m h1 h2
  rw [hs_app]
  by_cases e : m = p + 1
  · rw [if_pos ⟨rfl, by omega⟩, if_pos (by omega), hx, e]
  · have n1 : ¬ ((68 : Int) = 68 ∧ (m : Int) = ((p + 1 : Nat) : Int)) := by omega
    rw [if_neg n1, h m h1 h2]
    by_cases h3 : m ≤ p
    · rw [if_pos h3, if_pos (by omega)]
    · rw [if_neg h3, if_neg (by omega)]
theorem w68_same {H : Hp} {p : Nat} (hx : wayV (p + 1) = 0) (h : w68 H p) : w68 H (p + 1) := by
  intro m h1 h2
  rw [h m h1 h2]
  by_cases e : m = p + 1
  · have n1 : ¬ m ≤ p := by omega
    have n2 : m ≤ p + 1 := by omega
    rw [if_neg n1, if_pos n2, e, hx]
  · by_cases h3 : m ≤ p
    · have n2 : m ≤ p + 1 := by omega
      rw [if_pos h3, if_pos n2]
    · have n2 : ¬ m ≤ p + 1 := by omega
      rw [if_neg h3, if_neg n2]
/-- what stands while the ways are counted -/
def hvJ (H H' : Hp) (p : Nat) : Prop := Fx sHV H H' ∧ w68 H' p ∧ H' 66 0 = 67 ∧ H' 66 1 = 68
theorem hvJ.hs67 {H H' : Hp} {p : Nat} {j v : Int} (h : hvJ H H' p) : hvJ H (hs H' 67 j v) p := ⟨h.1.hs (c := 67) (j := j) rfl, fun m h1 h2 => by rw [hs_ne (by decide)]; exact h.2.1 m h1 h2, by rw [hs_ne (by decide)]; exact h.2.2.1, by rw [hs_ne (by decide)]; exact h.2.2.2⟩
theorem ix_c {k v p : Nat} (hk1 : 1 ≤ k) (hk : k ≤ 20) (hp : p + 1 ≤ v) (hv : v ≤ 410) : w32 (w32 (w32 (w32 ((k : Int) * 411) - 411) + v) - ((p + 1 : Nat) : Int)) = 411 * ((k - 1 : Nat) : Int) + ((v - (p + 1) : Nat) : Int) ∧ 0 ≤ 411 * ((k - 1 : Nat) : Int) + ((v - (p + 1) : Nat) : Int) ∧ 411 * ((k - 1 : Nat) : Int) + ((v - (p + 1) : Nat) : Int) < 8631 := by
  rw [w32_id (x := (k : Int) * 411) (by omega) (by omega), w32_id (x := (k : Int) * 411 - 411) (by omega) (by omega), w32_id (x := (k : Int) * 411 - 411 + v) (by omega) (by omega), w32_id (by omega) (by omega)]
  omega
theorem ix_c1 {k v : Nat} (hk : k ≤ 20) (hv : v ≤ 410) : w32 (w32 ((k : Int) * 411) + v) = 411 * (k : Int) + v ∧ 0 ≤ 411 * (k : Int) + v ∧ 411 * (k : Int) + v < 8631 := by
  rw [w32_id (x := (k : Int) * 411) (by omega) (by omega), w32_id (by omega) (by omega)]
  omega
def ixB (m : Nat) : Bool := !decide (m % 4 = 0) || decide (w32 (w32 (w32 ((m : Int).tdiv 2) * 411) + w32 ((w32 ((m : Int) * w32 ((m : Int) + 1))).tdiv 4)) = 411 * ((m / 2 : Nat) : Int) + ((m * (m + 1) / 4 : Nat) : Int) ∧ m / 2 ≤ 20 ∧ m * (m + 1) / 4 ≤ 410)
theorem ixB_ok : (List.range 41).all ixB = true := by decide +kernel
theorem ix_b {m : Nat} (h : m ≤ 40) (h4 : m % 4 = 0) : w32 (w32 (w32 ((m : Int).tdiv 2) * 411) + w32 ((w32 ((m : Int) * w32 ((m : Int) + 1))).tdiv 4)) = 411 * ((m / 2 : Nat) : Int) + ((m * (m + 1) / 4 : Nat) : Int) ∧ m / 2 ≤ 20 ∧ m * (m + 1) / 4 ≤ 410 := by
  have := List.all_eq_true.mp ixB_ok m (List.mem_range.mpr (by omega))
  unfold ixB at this
  rw [h4] at this
  simpa using this
section WY
variable {d : Nat} {V H : Hp} {Q : AV → Hp → Prop}
set_option maxRecDepth 20000 in
theorem cw_v {p k : Nat} (hp : p < 40) (hk : 1 ≤ k) (hk20 : k ≤ 20)
    (hout : ∀ v H', hvJ H H' p → ckT H' 67 20 410 p (k - 1) 410 → R d HV_countWays (blk HV_countWays 4) [va 66, vi ((p + 1 : Nat) : Int), vi k, vi (w32 ((k : Int) * 411)), vi v] [] H' Q) : ∀ v : Nat, v ≤ 410 → ∀ H', hvJ H H' p → ckT H' 67 20 410 p k v → R d HV_countWays (blk HV_countWays 3) [va 66, vi ((p + 1 : Nat) : Int), vi k, vi (w32 ((k : Int) * 411)), vi v] [] H' Q := by
  intro v
  have ex : ∀ v : Nat, v ≤ p → ∀ H', hvJ H H' p → ckT H' 67 20 410 p k v → R d HV_countWays (blk HV_countWays 3) [va 66, vi ((p + 1 : Nat) : Int), vi k, vi (w32 ((k : Int) * 411)), vi v] [] H' Q := by
    intro v hv H' hJ hT
    have c1 : (v : Int) < ((p + 1 : Nat) : Int) := by omega
    have := hout v H' hJ (ckT_row hk hv hT)
    rw [e_HV_countWays_3]
    simp only [k_HV_countWays_3, rr, sh, Nat.reduceLT, Nat.reduceMul, Int.reduceToNat, Int.reduceGT, Int.reduceGE, Int.reduceNe, true_and, and_true, true_or, or_true, false_or, or_false, and_self, or_self, if_true, if_false, reduceIte, not_true_eq_false, not_false_eq_true, Int.reduceEq, Int.reduceNe, Int.reduceLT, Int.reduceLE, Int.reduceAdd, Int.reduceSub, Int.reduceMul, Int.reduceNeg, Nat.reduceAdd, Nat.reduceLeDiff, Nat.reduceEqDiff, ne_eq, List.length_cons, List.length_nil, Nat.reduceSub, ite10_0, ite10_1, ite10_01, Classical.not_not, c1]
    exact this
  induction v with
  | zero => intro _; exact ex 0 (Nat.zero_le p)
  | succ v ih =>
    intro hv H' hJ hT
    by_cases h : v + 1 ≤ p
    · exact ex _ h H' hJ hT
    · have c1 : ¬ ((v + 1 : Nat) : Int) < ((p + 1 : Nat) : Int) := by omega
      obtain ⟨i1, i2, i3⟩ := ix_c1 hk20 (show v + 1 ≤ 410 by omega)
      obtain ⟨i4, i5, i6⟩ := ix_c hk hk20 (show p + 1 ≤ v + 1 by omega) (show v + 1 ≤ 410 by omega)
      have w9 : w32 (((v + 1 : Nat) : Int) + -1) = (v : Int) := by rw [w32_m1 (by omega) (by omega), Nat.add_sub_cancel]
      have hst := ckT_step hk hk20 (show p + 1 ≤ v + 1 by omega) hv (Nat.le_refl 410) hT
      rw [Nat.add_sub_cancel] at hst
      have a1 := hJ.2.2.1
      rw [e_HV_countWays_3]
      simp only [k_HV_countWays_3, rr, sh, Nat.reduceLT, Nat.reduceMul, Int.reduceToNat, Int.reduceGT, Int.reduceGE, Int.reduceNe, true_and, and_true, true_or, or_true, false_or, or_false, and_self, or_self, if_true, if_false, reduceIte, not_true_eq_false, not_false_eq_true, Int.reduceEq, Int.reduceNe, Int.reduceLT, Int.reduceLE, Int.reduceAdd, Int.reduceSub, Int.reduceMul, Int.reduceNeg, Nat.reduceAdd, Nat.reduceLeDiff, Nat.reduceEqDiff, ne_eq, List.length_cons, List.length_nil, Nat.reduceSub, ite10_0, ite10_1, ite10_01, Classical.not_not, c1, a1, i1, i2, i3, i4, i5, i6, w9] <;> clear w9
      exact ih (Nat.le_of_succ_le hv) _ hJ.hs67 hst
set_option maxRecDepth 20000 in
theorem cw_k {p : Nat} (hp : p < 40)
    (hout : ∀ z w H', hvJ H H' p → ckT H' 67 20 410 (p + 1) 20 410 → R d HV_countWays (blk HV_countWays 5) [va 66, vi ((p + 1 : Nat) : Int), vi 0, z, w] [] H' Q) : ∀ k : Nat, k ≤ 20 → ∀ z w H', hvJ H H' p → ckT H' 67 20 410 p k 410 → R d HV_countWays (blk HV_countWays 2) [va 66, vi ((p + 1 : Nat) : Int), vi k, z, w] [] H' Q := by
  intro k
  induction k with
  | zero =>
    intro _ z w H' hJ hT
    have := hout z w H' hJ (ckT_all hT)
    have c1 : ((0 : Nat) : Int) < 1 := by decide
    rw [e_HV_countWays_2]
    simp only [k_HV_countWays_2, rr, sh, Nat.reduceLT, Nat.reduceMul, Int.reduceToNat, Int.reduceGT, Int.reduceGE, Int.reduceNe, true_and, and_true, true_or, or_true, false_or, or_false, and_self, or_self, if_true, if_false, reduceIte, not_true_eq_false, not_false_eq_true, Int.reduceEq, Int.reduceNe, Int.reduceLT, Int.reduceLE, Int.reduceAdd, Int.reduceSub, Int.reduceMul, Int.reduceNeg, Nat.reduceAdd, Nat.reduceLeDiff, Nat.reduceEqDiff, ne_eq, List.length_cons, List.length_nil, Nat.reduceSub, ite10_0, ite10_1, ite10_01, Classical.not_not, c1]
    exact this
  | succ k ih =>
    intro hk z w H' hJ hT
    have c1 : ¬ ((k + 1 : Nat) : Int) < 1 := by omega
    have w9 : w32 (((k + 1 : Nat) : Int) + -1) = (k : Int) := by rw [w32_m1 (by omega) (by omega), Nat.add_sub_cancel]
    rw [e_HV_countWays_2]
    simp only [k_HV_countWays_2, rr, sh, Nat.reduceLT, Nat.reduceMul, Int.reduceToNat, Int.reduceGT, Int.reduceGE, Int.reduceNe, true_and, and_true, true_or, or_true, false_or, or_false, and_self, or_self, if_true, if_false, reduceIte, not_true_eq_false, not_false_eq_true, Int.reduceEq, Int.reduceNe, Int.reduceLT, Int.reduceLE, Int.reduceAdd, Int.reduceSub, Int.reduceMul, Int.reduceNeg, Nat.reduceAdd, Nat.reduceLeDiff, Nat.reduceEqDiff, ne_eq, List.length_cons, List.length_nil, Nat.reduceSub, ite10_0, ite10_1, ite10_01, Classical.not_not, c1]
    refine cw_v hp (by omega) hk (fun v H2 hJ2 hT2 => ?_) 410 (Nat.le_refl 410) H' hJ hT
    rw [Nat.add_sub_cancel] at hT2
    have := ih (Nat.le_of_succ_le hk) (vi (w32 (((k + 1 : Nat) : Int) * 411))) (vi v) H2 hJ2 hT2
    rw [e_HV_countWays_4]
    simp only [k_HV_countWays_4, rr, sh, Nat.reduceLT, Nat.reduceMul, Int.reduceToNat, Int.reduceGT, Int.reduceGE, Int.reduceNe, true_and, and_true, true_or, or_true, false_or, or_false, and_self, or_self, if_true, if_false, reduceIte, not_true_eq_false, not_false_eq_true, Int.reduceEq, Int.reduceNe, Int.reduceLT, Int.reduceLE, Int.reduceAdd, Int.reduceSub, Int.reduceMul, Int.reduceNeg, Nat.reduceAdd, Nat.reduceLeDiff, Nat.reduceEqDiff, ne_eq, List.length_cons, List.length_nil, Nat.reduceSub, ite10_0, ite10_1, ite10_01, Classical.not_not, w9] <;> clear w9
    exact this
set_option maxRecDepth 20000 in
theorem c_countWays (h0 : H 66 0 = 67) (h1 : H 66 1 = 68) (hz : ∀ j : Nat, j < 8631 → H 67 j = 0) (hz2 : ∀ m : Nat, m ≤ 40 → H 68 m = 0) (hQ : ∀ H', Fx sHV H H' → (∀ m : Nat, 1 ≤ m → m ≤ 40 → H' 68 m = wayV m) → Q vu H') : CC (d + 1) HV_countWays [va 66] H Q := by
  simp only [en_HV_countWays, e_HV_countWays_0, k_HV_countWays_0, rr, sh, Nat.reduceLT, Nat.reduceMul, Int.reduceToNat, Int.reduceGT, Int.reduceGE, Int.reduceNe, true_and, and_true, true_or, or_true, false_or, or_false, and_self, or_self, if_true, if_false, reduceIte, not_true_eq_false, not_false_eq_true, Int.reduceEq, Int.reduceNe, Int.reduceLT, Int.reduceLE, Int.reduceAdd, Int.reduceSub, Int.reduceMul, Int.reduceNeg, Nat.reduceAdd, Nat.reduceLeDiff, Nat.reduceEqDiff, ne_eq, List.length_cons, List.length_nil, Nat.reduceSub, ite10_0, ite10_1, ite10_01, Classical.not_not, h0]
  refine up_nat (P := fun p => ∀ z w y H', hvJ H H' p → ckT H' 67 20 410 p 20 410 → R (d + 1) HV_countWays (blk HV_countWays 1) [va 66, vi ((p + 1 : Nat) : Int), z, w, y] [] H' Q) ?_ ?_ 0 (Nat.zero_le 40) vu vu vu _ (hvJ.hs67 ⟨Fx.rf, fun m a b => ?_, h0, h1⟩) ?_
  · intro z w y H' hJ hT
    have c1 : (40 : Int) < ((40 + 1 : Nat) : Int) := by decide
    rw [e_HV_countWays_1]
    simp only [k_HV_countWays_1, e_HV_countWays_7, k_HV_countWays_7, rr, sh, Nat.reduceLT, Nat.reduceMul, Int.reduceToNat, Int.reduceGT, Int.reduceGE, Int.reduceNe, true_and, and_true, true_or, or_true, false_or, or_false, and_self, or_self, if_true, if_false, reduceIte, not_true_eq_false, not_false_eq_true, Int.reduceEq, Int.reduceNe, Int.reduceLT, Int.reduceLE, Int.reduceAdd, Int.reduceSub, Int.reduceMul, Int.reduceNeg, Nat.reduceAdd, Nat.reduceLeDiff, Nat.reduceEqDiff, ne_eq, List.length_cons, List.length_nil, Nat.reduceSub, ite10_0, ite10_1, ite10_01, Classical.not_not, c1]
    refine hQ H' hJ.1 (fun m a b => ?_)
    rw [hJ.2.1 m a b, if_pos b]
  · intro p hp ih z w y H' hJ hT
    have c1 : ¬ (40 : Int) < ((p + 1 : Nat) : Int) := by omega
    have e1 : min ((p + 1 : Nat) : Int) 20 = ((min (p + 1) 20 : Nat) : Int) := by omega
    rw [e_HV_countWays_1]
    simp only [k_HV_countWays_1, rr, sh, Nat.reduceLT, Nat.reduceMul, Int.reduceToNat, Int.reduceGT, Int.reduceGE, Int.reduceNe, true_and, and_true, true_or, or_true, false_or, or_false, and_self, or_self, if_true, if_false, reduceIte, not_true_eq_false, not_false_eq_true, Int.reduceEq, Int.reduceNe, Int.reduceLT, Int.reduceLE, Int.reduceAdd, Int.reduceSub, Int.reduceMul, Int.reduceNeg, Nat.reduceAdd, Nat.reduceLeDiff, Nat.reduceEqDiff, ne_eq, List.length_cons, List.length_nil, Nat.reduceSub, ite10_0, ite10_1, ite10_01, Classical.not_not, c1, q_minI, e1] <;> clear e1
    refine cw_k hp (fun z w H2 hJ2 hT2 => ?_) (min (p + 1) 20) (by omega) w y H' hJ (ckT_top hT)
    have w1 : w32 (((p + 1 : Nat) : Int).tmod 4) = (((p + 1) % 4 : Nat) : Int) := by rw [Int.tmod_eq_emod_of_nonneg (by omega), w32_id (by omega) (by omega)]; omega
    have kp := pl_ix p hp
    have a0 := hJ2.2.2.1
    have a1 := hJ2.2.2.2
    by_cases h4 : (p + 1) % 4 = 0
    · have z1 : (((p + 1) % 4 : Nat) : Int) = 0 := by omega
      obtain ⟨i1, i2, i3⟩ := ix_b (show p + 1 ≤ 40 by omega) h4
      rw [kp] at i1
      obtain ⟨-, i5, i6⟩ := ix_c1 i2 i3
      have j1 : 0 ≤ ((p + 1 : Nat) : Int) ∧ ((p + 1 : Nat) : Int) < 41 := by omega
      have n1 : ¬ (20 < (p + 1) / 2 ∨ ((p + 1) / 2 = 20 ∧ 410 < (p + 1) * (p + 1 + 1) / 4)) := by omega
      have hr := hT2 ((p + 1) / 2) ((p + 1) * (p + 1 + 1) / 4) i2 i3
      rw [if_neg n1] at hr
      have hw : wayV (p + 1) = w64 (ck (p + 1) ((p + 1) / 2) ((p + 1) * (p + 1 + 1) / 4)) := by unfold wayV; rw [if_pos h4]
      have hn := w68_next hp hJ2.2.1 hw.symm
      have ih2 := ih (vi 0) z w _ ⟨hJ2.1.hs (c := 68) (j := ((p + 1 : Nat) : Int)) rfl, hn, by rw [hs_ne (by decide)]; exact a0, by rw [hs_ne (by decide)]; exact a1⟩ (fun i j hi hj => by rw [hs_ne (by decide)]; exact hT2 i j hi hj)
      rw [e_HV_countWays_5]
      simp only [k_HV_countWays_5, e_HV_countWays_6, k_HV_countWays_6, rr, sh, Nat.reduceLT, Nat.reduceMul, Int.reduceToNat, Int.reduceGT, Int.reduceGE, Int.reduceNe, true_and, and_true, true_or, or_true, false_or, or_false, and_self, or_self, if_true, if_false, reduceIte, not_true_eq_false, not_false_eq_true, Int.reduceEq, Int.reduceNe, Int.reduceLT, Int.reduceLE, Int.reduceAdd, Int.reduceSub, Int.reduceMul, Int.reduceNeg, Nat.reduceAdd, Nat.reduceLeDiff, Nat.reduceEqDiff, ne_eq, List.length_cons, List.length_nil, Nat.reduceSub, ite10_0, ite10_1, ite10_01, Classical.not_not, w1, z1, a0, a1, i1, i5, i6, j1, hr, kp] <;> clear w1
      exact ih2
    · have z1 : ¬ (((p + 1) % 4 : Nat) : Int) = 0 := by omega
      have hw : wayV (p + 1) = 0 := by unfold wayV; rw [if_neg h4]
      have ih2 := ih (vi 0) z w H2 ⟨hJ2.1, w68_same hw hJ2.2.1, a0, a1⟩ hT2
      rw [e_HV_countWays_5]
      simp only [k_HV_countWays_5, e_HV_countWays_6, k_HV_countWays_6, rr, sh, Nat.reduceLT, Nat.reduceMul, Int.reduceToNat, Int.reduceGT, Int.reduceGE, Int.reduceNe, true_and, and_true, true_or, or_true, false_or, or_false, and_self, or_self, if_true, if_false, reduceIte, not_true_eq_false, not_false_eq_true, Int.reduceEq, Int.reduceNe, Int.reduceLT, Int.reduceLE, Int.reduceAdd, Int.reduceSub, Int.reduceMul, Int.reduceNeg, Nat.reduceAdd, Nat.reduceLeDiff, Nat.reduceEqDiff, ne_eq, List.length_cons, List.length_nil, Nat.reduceSub, ite10_0, ite10_1, ite10_01, Classical.not_not, w1, z1, kp] <;> clear w1
      exact ih2
  · have n1 : ¬ m ≤ 0 := by omega
    rw [if_neg n1]; exact hz2 m b
  · intro i j hi hj
    have n1 : ¬ (20 < i ∨ (i = 20 ∧ 410 < j)) := by omega
    rw [if_neg n1]
    show _ = w64 (if i = 0 ∧ j = 0 then 1 else 0)
    rw [hs_app]
    by_cases h0 : i = 0 ∧ j = 0
    · rw [if_pos h0, if_pos ⟨rfl, by omega⟩]; rfl
    · have n2 : ¬ ((67 : Int) = 67 ∧ 411 * (i : Int) + j = 0) := by omega
      have n3 : 411 * i + j < 8631 := by omega
      have := hz (411 * i + j) n3
      rw [if_neg h0, if_neg n2]
      push_cast at this
      rw [this]; rfl
set_option maxRecDepth 20000 in
theorem c_waysC (hP : Ptr V) (hH : Vw V H) (hO : HvOk H) {n : Int} (hQ : ∀ H', Fx sHV H H' → HvOk H' → Q (vl (waysS n)) H') : CC (d + 3) EO_ways [va 1, vi n] H Q := by
  have f := hH.f hP
  have a0 : H 66 0 = 67 := (hH 66 0 rfl).trans (hP (66, 0, 67) (by decide +kernel))
  have a1 : H 66 1 = 68 := (hH 66 1 rfl).trans (hP (66, 1, 68) (by decide +kernel))
  by_cases hn : 1 ≤ n ∧ n ≤ 40
  · have hq : ∀ H', Fx sHV H H' → HvOk H' → Q (vl (wayV n.toNat)) H' := fun H' h1 h2 => by
      have := hQ H' h1 h2
      unfold waysS at this
      rw [if_pos hn] at this
      exact this
    obtain ⟨n, rfl⟩ := Int.eq_ofNat_of_zero_le (show 0 ≤ n by clear f; omega)
    rw [Int.toNat_natCast] at hq
    have c1 : ¬ (n : Int) < 1 := by clear f; omega
    have c2 : (n : Int) ≤ 40 := hn.2
    have j1 : 0 ≤ (n : Int) ∧ (n : Int) < 41 := by clear f; omega
    have hn1 : 1 ≤ n := by clear f; omega
    have hn2 : n ≤ 40 := by clear f; omega
    rcases id hO with ⟨o1, o2, o3⟩ | ⟨o1, o2⟩
    · have o9 : V 66 2 = 0 := (hH 66 2 rfl).symm.trans o1
      simp only [en_EO_ways, e_EO_ways_0, k_EO_ways_0, en_HV_waysFor, e_HV_waysFor_0, k_HV_waysFor_0, e_HV_waysFor_1, k_HV_waysFor_1, e_HV_waysFor_2, k_HV_waysFor_2, rr, sh, Nat.reduceLT, Nat.reduceMul, Int.reduceToNat, Int.reduceGT, Int.reduceGE, Int.reduceNe, true_and, and_true, true_or, or_true, false_or, or_false, and_self, or_self, if_true, if_false, reduceIte, not_true_eq_false, not_false_eq_true, Int.reduceEq, Int.reduceNe, Int.reduceLT, Int.reduceLE, Int.reduceAdd, Int.reduceSub, Int.reduceMul, Int.reduceNeg, Nat.reduceAdd, Nat.reduceLeDiff, Nat.reduceEqDiff, ne_eq, List.length_cons, List.length_nil, Nat.reduceSub, f, c1, c2, o9]
      clear f
      refine c_countWays a0 a1 o2 o3 fun H1 b1 b2 => ?_
      have b3 : H1 66 1 = 68 := (b1 66 1 rfl).trans a1
      have e1 := b2 n hn1 hn2
      have e2 : hs H1 66 2 1 68 n = wayV n := by rw [hs_ne (by decide)]; exact e1
      have e3 : hs H1 66 2 1 66 1 = 68 := by rw [hs_app, if_neg (by decide)]; exact b3
      simp only [e_HV_waysFor_3, k_HV_waysFor_3, en_EO_ways, e_EO_ways_0, k_EO_ways_0, rr, sh, Nat.reduceLT, Nat.reduceMul, Int.reduceToNat, Int.reduceGT, Int.reduceGE, Int.reduceNe, true_and, and_true, true_or, or_true, false_or, or_false, and_self, or_self, if_true, if_false, reduceIte, not_true_eq_false, not_false_eq_true, Int.reduceEq, Int.reduceNe, Int.reduceLT, Int.reduceLE, Int.reduceAdd, Int.reduceSub, Int.reduceMul, Int.reduceNeg, Nat.reduceAdd, Nat.reduceLeDiff, Nat.reduceEqDiff, ne_eq, List.length_cons, List.length_nil, Nat.reduceSub, ite10_0, ite10_1, ite10_01, Classical.not_not, e2, e3, j1] <;> clear e2 e3
      exact hq _ (b1.hs (c := 66) (j := 2) rfl) (Or.inr ⟨hs_same, fun m h1 h2 => by rw [hs_ne (by decide)]; exact b2 m h1 h2⟩)
    · have e1 : V 68 n = wayV n := (hH 68 n rfl).symm.trans (o2 n hn1 hn2)
      have o9 : V 66 2 = 1 := (hH 66 2 rfl).symm.trans o1
      have z : ¬ ((1 : Int) = 0) := by decide
      simp only [en_EO_ways, e_EO_ways_0, k_EO_ways_0, en_HV_waysFor, e_HV_waysFor_0, k_HV_waysFor_0, e_HV_waysFor_1, k_HV_waysFor_1, e_HV_waysFor_2, k_HV_waysFor_2, e_HV_waysFor_3, k_HV_waysFor_3, rr, sh, Nat.reduceLT, Nat.reduceMul, Int.reduceToNat, Int.reduceGT, Int.reduceGE, Int.reduceNe, true_and, and_true, true_or, or_true, false_or, or_false, and_self, or_self, if_true, if_false, reduceIte, not_true_eq_false, not_false_eq_true, Int.reduceEq, Int.reduceNe, Int.reduceLT, Int.reduceLE, Int.reduceAdd, Int.reduceSub, Int.reduceMul, Int.reduceNeg, Nat.reduceAdd, Nat.reduceLeDiff, Nat.reduceEqDiff, ne_eq, List.length_cons, List.length_nil, Nat.reduceSub, f, c1, c2, o9, e1, j1, z]
      clear f
      exact hq H Fx.rf hO
  · have hq := hQ H Fx.rf hO
    unfold waysS at hq
    rw [if_neg hn] at hq
    by_cases c1 : n < 1
    · simp only [en_EO_ways, e_EO_ways_0, k_EO_ways_0, en_HV_waysFor, e_HV_waysFor_0, k_HV_waysFor_0, e_HV_waysFor_1, k_HV_waysFor_1, e_HV_waysFor_2, k_HV_waysFor_2, e_HV_waysFor_3, k_HV_waysFor_3, rr, sh, Nat.reduceLT, Nat.reduceMul, Int.reduceToNat, Int.reduceGT, Int.reduceGE, Int.reduceNe, true_and, and_true, true_or, or_true, false_or, or_false, and_self, or_self, if_true, if_false, reduceIte, not_true_eq_false, not_false_eq_true, Int.reduceEq, Int.reduceNe, Int.reduceLT, Int.reduceLE, Int.reduceAdd, Int.reduceSub, Int.reduceMul, Int.reduceNeg, Nat.reduceAdd, Nat.reduceLeDiff, Nat.reduceEqDiff, ne_eq, List.length_cons, List.length_nil, Nat.reduceSub, f, c1]
      exact hq
    · have c2 : ¬ n ≤ 40 := by clear f; omega
      simp only [en_EO_ways, e_EO_ways_0, k_EO_ways_0, en_HV_waysFor, e_HV_waysFor_0, k_HV_waysFor_0, e_HV_waysFor_1, k_HV_waysFor_1, e_HV_waysFor_2, k_HV_waysFor_2, e_HV_waysFor_3, k_HV_waysFor_3, rr, sh, Nat.reduceLT, Nat.reduceMul, Int.reduceToNat, Int.reduceGT, Int.reduceGE, Int.reduceNe, true_and, and_true, true_or, or_true, false_or, or_false, and_self, or_self, if_true, if_false, reduceIte, not_true_eq_false, not_false_eq_true, Int.reduceEq, Int.reduceNe, Int.reduceLT, Int.reduceLE, Int.reduceAdd, Int.reduceSub, Int.reduceMul, Int.reduceNeg, Nat.reduceAdd, Nat.reduceLeDiff, Nat.reduceEqDiff, ne_eq, List.length_cons, List.length_nil, Nat.reduceSub, f, c1, c2]
      exact hq
end WY
