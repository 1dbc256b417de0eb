/-! alike rowers: doubled, still -/
def dblV (p m : Nat) : Int := w64 (sumI (fun i => sgn (decide (pop i % 2 = 1)) (((i : Int) + 1) ^ p)) m)
def dblS (k p : Int) : Int := if (1 ≤ k ∧ k ≤ 10) ∧ 0 ≤ p ∧ p ≤ 5 then dblV p.toNat (2 ^ k.toNat) else -1000000000000000
def sbV (n b p : Nat) : Int := w64 (sumI (fun k => sgn (b.testBit k) (((k : Int) + 1) ^ p)) n)
def stG (z : Nat → Int) : Nat → Nat → Int
  | p, 0 => (p : Int) - 1
  | p, f + 1 => if z p = 0 then stG z (p + 1) f else (p : Int) - 1
def stlS (n b : Int) : Int := if (1 ≤ n ∧ n ≤ 16) ∧ 0 ≤ b ∧ b < ((2 ^ n.toNat : Nat) : Int) then stG (sbV n.toNat b.toNat) 0 6 else -1
section AL
variable {d : Nat} {H : Hp} {Q : AV → Hp → Prop}
theorem q_power {x : Int} {n : Nat} (hn : n < 100) : CC d HV_power [vl x, vi n] H Q = Q (vl (w64 (x ^ n))) H := by
  refine CC_dt fun Q hQ => ?_
  simp only [en_HV_power, e_HV_power_0, k_HV_power_0, rr, sh, Nat.reduceLT, Nat.reduceMul, Int.reduceToNat, Int.reduceGT, Int.reduceGE, Int.reduceNe, true_and, and_true, true_or, or_true, false_or, or_false, and_self, or_self, if_true, if_false, reduceIte, not_true_eq_false, not_false_eq_true, Int.reduceEq, Int.reduceNe, Int.reduceLT, Int.reduceLE, Int.reduceAdd, Int.reduceSub, Int.reduceMul, Int.reduceNeg, Nat.reduceAdd, Nat.reduceLeDiff, Nat.reduceEqDiff, ne_eq, List.length_cons, List.length_nil, Nat.reduceSub, ite10_0, ite10_1, ite10_01, Classical.not_not]
  (repeat (refine And.intro (by omega) ?_))
  refine R_cg (up_nat (P := fun k => R d HV_power (blk HV_power 1) [vl x, vu, vi n, vl (w64 (x ^ k)), vu, vi k] [] H Q) ?_ ?_ 0 (Nat.zero_le n)) (by rw [Int.pow_zero]; rfl) rfl
  · rw [e_HV_power_1]
    simp only [k_HV_power_1, e_HV_power_2, k_HV_power_2, rr, sh, Nat.reduceLT, Nat.reduceMul, Int.reduceToNat, Int.reduceGT, Int.reduceGE, Int.reduceNe, true_and, and_true, true_or, or_true, false_or, or_false, and_self, or_self, if_true, if_false, reduceIte, not_true_eq_false, not_false_eq_true, Int.reduceEq, Int.reduceNe, Int.reduceLT, Int.reduceLE, Int.reduceAdd, Int.reduceSub, Int.reduceMul, Int.reduceNeg, Nat.reduceAdd, Nat.reduceLeDiff, Nat.reduceEqDiff, ne_eq, List.length_cons, List.length_nil, Nat.reduceSub, ite10_0, ite10_1, ite10_01, Classical.not_not, Int.le_refl]
    exact hQ
  · intro k hk ih
    have c1 : ¬ (n : Int) ≤ k := by omega
    rw [Int.pow_succ] at ih
    rw [e_HV_power_1]
    simp only [k_HV_power_1, e_HV_power_2, k_HV_power_2, rr, sh, Nat.reduceLT, Nat.reduceMul, Int.reduceToNat, Int.reduceGT, Int.reduceGE, Int.reduceNe, true_and, and_true, true_or, or_true, false_or, or_false, and_self, or_self, if_true, if_false, reduceIte, not_true_eq_false, not_false_eq_true, Int.reduceEq, Int.reduceNe, Int.reduceLT, Int.reduceLE, Int.reduceAdd, Int.reduceSub, Int.reduceMul, Int.reduceNeg, Nat.reduceAdd, Nat.reduceLeDiff, Nat.reduceEqDiff, ne_eq, List.length_cons, List.length_nil, Nat.reduceSub, ite10_0, ite10_1, ite10_01, Classical.not_not, c1, w32_s (show k < 2147483647 by omega), w64_ml]
    exact ih
theorem pow10 {k : Nat} (h : k ≤ 10) : 2 ^ k ≤ 1024 := Nat.pow_le_pow_right (by decide) h
theorem dbl_step {p i : Nat} : w64 (w64 (sumI (fun i => sgn (decide (pop i % 2 = 1)) (((i : Int) + 1) ^ p)) i) + (if pop i % 2 = 1 then w64 (((i : Int) + 1) ^ p) else w64 (-w64 (((i : Int) + 1) ^ p)))) = w64 (sumI (fun i => sgn (decide (pop i % 2 = 1)) (((i : Int) + 1) ^ p)) (i + 1)) := by
  show _ = w64 (_ + sgn _ _)
  unfold sgn
  by_cases h : pop i % 2 = 1
  · simp only [h, if_true, decide_true, w64_al, w64_ar]
  · simp only [h, if_false, decide_false, Bool.false_eq_true, w64_neg, w64_al, w64_ar]
theorem pop_mod {i : Nat} : w32 ((pop i).tmod 2) = pop i % 2 := by
  have := pop_lt (n := i)
  rw [Int.tmod_eq_emod_of_nonneg this.1, w32_id (by omega) (by omega)]
theorem q_doubledC {k p : Int} : CC (d + 2) EO_doubled [va 1, vi k, vi p] H Q = Q (vl (dblS k p)) H := by
  refine CC_dt fun Q hQ => ?_
  unfold dblS at hQ
  by_cases hk : 1 ≤ k ∧ k ≤ 10
  · by_cases hp : 0 ≤ p ∧ p ≤ 5
    · rw [if_pos ⟨hk, hp⟩] at hQ
      obtain ⟨k, rfl⟩ := Int.eq_ofNat_of_zero_le (show 0 ≤ k by omega)
      obtain ⟨p, rfl⟩ := Int.eq_ofNat_of_zero_le hp.1
      rw [Int.toNat_natCast, Int.toNat_natCast] at hQ
      have c1 : ¬ (k : Int) < 1 := by omega
      have c2 : ¬ 10 < (k : Int) := by omega
      have c3 : ¬ (p : Int) < 0 := by omega
      have hp9 : p < 100 := by omega
      have h2 := pow10 (show k ≤ 10 by omega)
      have e0 := one_shl (show k ≤ 12 by omega)
      generalize 2 ^ k = P at hQ h2 e0
      simp only [en_EO_doubled, e_EO_doubled_0, k_EO_doubled_0, en_HV_sumDoubled, e_HV_sumDoubled_0, k_HV_sumDoubled_0, e_HV_sumDoubled_1, k_HV_sumDoubled_1, e_HV_sumDoubled_2, k_HV_sumDoubled_2, rr, sh, Nat.reduceLT, Nat.reduceMul, Int.reduceToNat, Int.reduceGT, Int.reduceGE, Int.reduceNe, true_and, and_true, true_or, or_true, false_or, or_false, and_self, or_self, if_true, if_false, reduceIte, not_true_eq_false, not_false_eq_true, Int.reduceEq, Int.reduceNe, Int.reduceLT, Int.reduceLE, Int.reduceAdd, Int.reduceSub, Int.reduceMul, Int.reduceNeg, Nat.reduceAdd, Nat.reduceLeDiff, Nat.reduceEqDiff, ne_eq, List.length_cons, List.length_nil, Nat.reduceSub, ite10_0, ite10_1, ite10_01, Classical.not_not, c1, c2, c3, hp]
      refine up_nat (P := fun i => ∀ x, R (d + 1) HV_sumDoubled (blk HV_sumDoubled 3) [vi k, vi p, vl (dblV p i), vu, vi i, x, vu] [] H (fun r H1 => R (d + 1 + 1) EO_doubled [x_rl] [va 1, vi k, vi p] [r] H1 Q)) ?_ ?_ 0 (Nat.zero_le P) vu
      · intro x
        rw [e_HV_sumDoubled_3]
        simp only [k_HV_sumDoubled_3, e_HV_sumDoubled_6, k_HV_sumDoubled_6, rr, sh, Nat.reduceLT, Nat.reduceMul, Int.reduceToNat, Int.reduceGT, Int.reduceGE, Int.reduceNe, true_and, and_true, true_or, or_true, false_or, or_false, and_self, or_self, if_true, if_false, reduceIte, not_true_eq_false, not_false_eq_true, Int.reduceEq, Int.reduceNe, Int.reduceLT, Int.reduceLE, Int.reduceAdd, Int.reduceSub, Int.reduceMul, Int.reduceNeg, Nat.reduceAdd, Nat.reduceLeDiff, Nat.reduceEqDiff, ne_eq, List.length_cons, List.length_nil, Nat.reduceSub, ite10_0, ite10_1, ite10_01, Classical.not_not, e0, Int.le_refl] <;> clear e0
        exact hQ
      · intro i hi ih x
        have c4 : ¬ (P : Int) ≤ i := by omega
        have w1 : w32 ((i : Int) + 1) = (i : Int) + 1 := w32_id (by omega) (by omega)
        have i4 : i < 4096 := by omega
        have cst : ((i + 1 : Nat) : Int) = (i : Int) + 1 := by omega
        have hst := dbl_step (p := p) (i := i)
        have ih1 := ih (vl (w64 (((i : Int) + 1) ^ p)))
        unfold dblV at ih1 ⊢
        rw [← hst, cst] at ih1
        clear ih hst hQ
        rw [e_HV_sumDoubled_3]
        simp only [k_HV_sumDoubled_3, e_HV_sumDoubled_4, k_HV_sumDoubled_4, e_HV_sumDoubled_5, k_HV_sumDoubled_5, rr, sh, Nat.reduceLT, Nat.reduceMul, Int.reduceToNat, Int.reduceGT, Int.reduceGE, Int.reduceNe, true_and, and_true, true_or, or_true, false_or, or_false, and_self, or_self, if_true, if_false, reduceIte, not_true_eq_false, not_false_eq_true, Int.reduceEq, Int.reduceNe, Int.reduceLT, Int.reduceLE, Int.reduceAdd, Int.reduceSub, Int.reduceMul, Int.reduceNeg, Nat.reduceAdd, Nat.reduceLeDiff, Nat.reduceEqDiff, ne_eq, List.length_cons, List.length_nil, Nat.reduceSub, ite10_0, ite10_1, ite10_01, Classical.not_not, e0, c4, w1, q_power hp9, q_bitCount i4, pop_mod] <;> clear e0 w1
        by_cases h : pop i % 2 = 1
        · rw [if_pos h] at ih1; rw [if_neg (fun q => q h)]; exact ih1
        · rw [if_neg h] at ih1; rw [if_pos h]; exact ih1
    · rw [if_neg (fun q => hp q.2)] at hQ
      have c1 : ¬ k < 1 := by omega
      have c2 : ¬ 10 < k := by omega
      by_cases c3 : p < 0
      · simp only [en_EO_doubled, e_EO_doubled_0, k_EO_doubled_0, en_HV_sumDoubled, e_HV_sumDoubled_0, k_HV_sumDoubled_0, e_HV_sumDoubled_1, k_HV_sumDoubled_1, e_HV_sumDoubled_2, k_HV_sumDoubled_2, rr, sh, Nat.reduceLT, Nat.reduceMul, Int.reduceToNat, Int.reduceGT, Int.reduceGE, Int.reduceNe, true_and, and_true, true_or, or_true, false_or, or_false, and_self, or_self, if_true, if_false, reduceIte, not_true_eq_false, not_false_eq_true, Int.reduceEq, Int.reduceNe, Int.reduceLT, Int.reduceLE, Int.reduceAdd, Int.reduceSub, Int.reduceMul, Int.reduceNeg, Nat.reduceAdd, Nat.reduceLeDiff, Nat.reduceEqDiff, ne_eq, List.length_cons, List.length_nil, Nat.reduceSub, ite10_0, ite10_1, ite10_01, Classical.not_not, c1, c2, c3]
        exact hQ
      · have c4 : ¬ p ≤ 5 := by omega
        simp only [en_EO_doubled, e_EO_doubled_0, k_EO_doubled_0, en_HV_sumDoubled, e_HV_sumDoubled_0, k_HV_sumDoubled_0, e_HV_sumDoubled_1, k_HV_sumDoubled_1, e_HV_sumDoubled_2, k_HV_sumDoubled_2, rr, sh, Nat.reduceLT, Nat.reduceMul, Int.reduceToNat, Int.reduceGT, Int.reduceGE, Int.reduceNe, true_and, and_true, true_or, or_true, false_or, or_false, and_self, or_self, if_true, if_false, reduceIte, not_true_eq_false, not_false_eq_true, Int.reduceEq, Int.reduceNe, Int.reduceLT, Int.reduceLE, Int.reduceAdd, Int.reduceSub, Int.reduceMul, Int.reduceNeg, Nat.reduceAdd, Nat.reduceLeDiff, Nat.reduceEqDiff, ne_eq, List.length_cons, List.length_nil, Nat.reduceSub, ite10_0, ite10_1, ite10_01, Classical.not_not, c1, c2, c3, c4]
        exact hQ
  · rw [if_neg (fun q => hk q.1)] at hQ
    by_cases c1 : k < 1
    · simp only [en_EO_doubled, e_EO_doubled_0, k_EO_doubled_0, en_HV_sumDoubled, e_HV_sumDoubled_0, k_HV_sumDoubled_0, e_HV_sumDoubled_1, k_HV_sumDoubled_1, e_HV_sumDoubled_2, k_HV_sumDoubled_2, rr, sh, Nat.reduceLT, Nat.reduceMul, Int.reduceToNat, Int.reduceGT, Int.reduceGE, Int.reduceNe, true_and, and_true, true_or, or_true, false_or, or_false, and_self, or_self, if_true, if_false, reduceIte, not_true_eq_false, not_false_eq_true, Int.reduceEq, Int.reduceNe, Int.reduceLT, Int.reduceLE, Int.reduceAdd, Int.reduceSub, Int.reduceMul, Int.reduceNeg, Nat.reduceAdd, Nat.reduceLeDiff, Nat.reduceEqDiff, ne_eq, List.length_cons, List.length_nil, Nat.reduceSub, ite10_0, ite10_1, ite10_01, Classical.not_not, c1]
      exact hQ
    · have c2 : 10 < k := by omega
      simp only [en_EO_doubled, e_EO_doubled_0, k_EO_doubled_0, en_HV_sumDoubled, e_HV_sumDoubled_0, k_HV_sumDoubled_0, e_HV_sumDoubled_1, k_HV_sumDoubled_1, e_HV_sumDoubled_2, k_HV_sumDoubled_2, rr, sh, Nat.reduceLT, Nat.reduceMul, Int.reduceToNat, Int.reduceGT, Int.reduceGE, Int.reduceNe, true_and, and_true, true_or, or_true, false_or, or_false, and_self, or_self, if_true, if_false, reduceIte, not_true_eq_false, not_false_eq_true, Int.reduceEq, Int.reduceNe, Int.reduceLT, Int.reduceLE, Int.reduceAdd, Int.reduceSub, Int.reduceMul, Int.reduceNeg, Nat.reduceAdd, Nat.reduceLeDiff, Nat.reduceEqDiff, ne_eq, List.length_cons, List.length_nil, Nat.reduceSub, ite10_0, ite10_1, ite10_01, Classical.not_not, c1, c2]
      exact hQ
theorem q_doubledM {k p : Int} : CC (d + 2) MO_doubled [va 71, vi k, vi p] H Q = Q (vl (dblS k p)) H := by
  refine CC_dt fun Q hQ => ?_
  unfold dblS at hQ
  by_cases hk : 1 ≤ k ∧ k ≤ 10
  · by_cases hp : 0 ≤ p ∧ p ≤ 5
    · rw [if_pos ⟨hk, hp⟩] at hQ
      simp only [en_MO_doubled, e_MO_doubled_0, k_MO_doubled_0, e_MO_doubled_1, k_MO_doubled_1, e_MO_doubled_2, k_MO_doubled_2, rr, sh, Nat.reduceLT, Nat.reduceMul, Int.reduceToNat, Int.reduceGT, Int.reduceGE, Int.reduceNe, true_and, and_true, true_or, or_true, false_or, or_false, and_self, or_self, if_true, if_false, reduceIte, not_true_eq_false, not_false_eq_true, Int.reduceEq, Int.reduceNe, Int.reduceLT, Int.reduceLE, Int.reduceAdd, Int.reduceSub, Int.reduceMul, Int.reduceNeg, Nat.reduceAdd, Nat.reduceLeDiff, Nat.reduceEqDiff, ne_eq, List.length_cons, List.length_nil, Nat.reduceSub, ite10_0, ite10_1, ite10_01, Classical.not_not, q_isIn, hk, hp]
      obtain ⟨k, rfl⟩ := Int.eq_ofNat_of_zero_le (show 0 ≤ k by omega)
      obtain ⟨p, rfl⟩ := Int.eq_ofNat_of_zero_le hp.1
      rw [Int.toNat_natCast, Int.toNat_natCast] at hQ
      have hp9 : p < 100 := by omega
      have h2 := pow10 (show k ≤ 10 by omega)
      have e0 := one_shl (show k ≤ 12 by omega)
      generalize 2 ^ k = P at hQ h2 e0
      refine up_nat (P := fun i => R (d + 2) MO_doubled (blk MO_doubled 3) [va 71, vi k, vi p, vl (dblV p i), vu, vi i] [] H Q) ?_ ?_ 0 (Nat.zero_le P)
      · rw [e_MO_doubled_3]
        simp only [k_MO_doubled_3, e_MO_doubled_6, k_MO_doubled_6, rr, sh, Nat.reduceLT, Nat.reduceMul, Int.reduceToNat, Int.reduceGT, Int.reduceGE, Int.reduceNe, true_and, and_true, true_or, or_true, false_or, or_false, and_self, or_self, if_true, if_false, reduceIte, not_true_eq_false, not_false_eq_true, Int.reduceEq, Int.reduceNe, Int.reduceLT, Int.reduceLE, Int.reduceAdd, Int.reduceSub, Int.reduceMul, Int.reduceNeg, Nat.reduceAdd, Nat.reduceLeDiff, Nat.reduceEqDiff, ne_eq, List.length_cons, List.length_nil, Nat.reduceSub, ite10_0, ite10_1, ite10_01, Classical.not_not, e0, Int.le_refl] <;> clear e0
        exact hQ
      · intro i hi ih
        have c4 : ¬ (P : Int) ≤ i := by omega
        have w1 : w32 ((i : Int) + 1) = (i : Int) + 1 := w32_id (by omega) (by omega)
        have i4 : i < 4096 := by omega
        have cst : ((i + 1 : Nat) : Int) = (i : Int) + 1 := by omega
        have hst := dbl_step (p := p) (i := i)
        unfold dblV at ih ⊢
        rw [← hst, cst] at ih
        clear hst hQ
        rw [e_MO_doubled_3]
        simp only [k_MO_doubled_3, e_MO_doubled_4, k_MO_doubled_4, e_MO_doubled_5, k_MO_doubled_5, rr, sh, Nat.reduceLT, Nat.reduceMul, Int.reduceToNat, Int.reduceGT, Int.reduceGE, Int.reduceNe, true_and, and_true, true_or, or_true, false_or, or_false, and_self, or_self, if_true, if_false, reduceIte, not_true_eq_false, not_false_eq_true, Int.reduceEq, Int.reduceNe, Int.reduceLT, Int.reduceLE, Int.reduceAdd, Int.reduceSub, Int.reduceMul, Int.reduceNeg, Nat.reduceAdd, Nat.reduceLeDiff, Nat.reduceEqDiff, ne_eq, List.length_cons, List.length_nil, Nat.reduceSub, ite10_0, ite10_1, ite10_01, Classical.not_not, e0, c4, w1, q_raised hp9, q_bits i4, pop_mod] <;> clear e0 w1
        by_cases h : pop i % 2 = 1
        · rw [if_pos h] at ih; rw [if_neg (fun q => q h)]; exact ih
        · rw [if_neg h] at ih; rw [if_pos h]; exact ih
    · rw [if_neg (fun q => hp q.2)] at hQ
      simp only [en_MO_doubled, e_MO_doubled_0, k_MO_doubled_0, e_MO_doubled_1, k_MO_doubled_1, e_MO_doubled_2, k_MO_doubled_2, rr, sh, Nat.reduceLT, Nat.reduceMul, Int.reduceToNat, Int.reduceGT, Int.reduceGE, Int.reduceNe, true_and, and_true, true_or, or_true, false_or, or_false, and_self, or_self, if_true, if_false, reduceIte, not_true_eq_false, not_false_eq_true, Int.reduceEq, Int.reduceNe, Int.reduceLT, Int.reduceLE, Int.reduceAdd, Int.reduceSub, Int.reduceMul, Int.reduceNeg, Nat.reduceAdd, Nat.reduceLeDiff, Nat.reduceEqDiff, ne_eq, List.length_cons, List.length_nil, Nat.reduceSub, ite10_0, ite10_1, ite10_01, Classical.not_not, q_isIn, hk, hp]
      exact hQ
  · rw [if_neg (fun q => hk q.1)] at hQ
    simp only [en_MO_doubled, e_MO_doubled_0, k_MO_doubled_0, e_MO_doubled_1, k_MO_doubled_1, e_MO_doubled_2, k_MO_doubled_2, rr, sh, Nat.reduceLT, Nat.reduceMul, Int.reduceToNat, Int.reduceGT, Int.reduceGE, Int.reduceNe, true_and, and_true, true_or, or_true, false_or, or_false, and_self, or_self, if_true, if_false, reduceIte, not_true_eq_false, not_false_eq_true, Int.reduceEq, Int.reduceNe, Int.reduceLT, Int.reduceLE, Int.reduceAdd, Int.reduceSub, Int.reduceMul, Int.reduceNeg, Nat.reduceAdd, Nat.reduceLeDiff, Nat.reduceEqDiff, ne_eq, List.length_cons, List.length_nil, Nat.reduceSub, ite10_0, ite10_1, ite10_01, Classical.not_not, q_isIn, hk]
    exact hQ
theorem pow16 {k : Nat} (h : k ≤ 16) : 2 ^ k ≤ 65536 := Nat.pow_le_pow_right (by decide) h
theorem one_shl16 {n : Nat} (h : n ≤ 16) : b_shl 1 n = ((2 ^ n : Nat) : Int) := by
  have h2 := pow16 h
  have := b_shl_nat (a := 1) (k := n) (by omega) (by omega)
  rw [Nat.one_mul] at this
  exact this
theorem sb_step {n b p : Nat} : w64 (w64 (sumI (fun k => sgn (b.testBit k) (((k : Int) + 1) ^ p)) n) + (if b.testBit n = true then w64 (((n : Int) + 1) ^ p) else w64 (-w64 (((n : Int) + 1) ^ p)))) = w64 (sumI (fun k => sgn (b.testBit k) (((k : Int) + 1) ^ p)) (n + 1)) := by
  show _ = w64 (_ + sgn _ _)
  unfold sgn
  by_cases h : b.testBit n = true
  · simp only [h, if_true, w64_al, w64_ar]
  · simp only [h, if_false, w64_neg, w64_al, w64_ar, Bool.false_eq_true]
theorem q_sumBy {n b p : Nat} (hn : n ≤ 16) (hb : b < 65536) (hp : p < 100) : CC (d + 1) MO_sumBy [vi n, vi b, vi p] H Q = Q (vl (sbV n b p)) H := by
  refine CC_dt fun Q hQ => ?_
  simp only [en_MO_sumBy, e_MO_sumBy_0, k_MO_sumBy_0, rr, sh, Nat.reduceLT, Nat.reduceMul, Int.reduceToNat, Int.reduceGT, Int.reduceGE, Int.reduceNe, true_and, and_true, true_or, or_true, false_or, or_false, and_self, or_self, if_true, if_false, reduceIte, not_true_eq_false, not_false_eq_true, Int.reduceEq, Int.reduceNe, Int.reduceLT, Int.reduceLE, Int.reduceAdd, Int.reduceSub, Int.reduceMul, Int.reduceNeg, Nat.reduceAdd, Nat.reduceLeDiff, Nat.reduceEqDiff, ne_eq, List.length_cons, List.length_nil, Nat.reduceSub, ite10_0, ite10_1, ite10_01, Classical.not_not]
  (repeat (refine And.intro (by omega) ?_))
  refine up_nat (P := fun k => R (d + 1) MO_sumBy (blk MO_sumBy 1) [vi n, vi b, vi p, vl (sbV k b p), vu, vi k] [] H Q) ?_ ?_ 0 (Nat.zero_le n)
  · rw [e_MO_sumBy_1]
    simp only [k_MO_sumBy_1, e_MO_sumBy_4, k_MO_sumBy_4, rr, sh, Nat.reduceLT, Nat.reduceMul, Int.reduceToNat, Int.reduceGT, Int.reduceGE, Int.reduceNe, true_and, and_true, true_or, or_true, false_or, or_false, and_self, or_self, if_true, if_false, reduceIte, not_true_eq_false, not_false_eq_true, Int.reduceEq, Int.reduceNe, Int.reduceLT, Int.reduceLE, Int.reduceAdd, Int.reduceSub, Int.reduceMul, Int.reduceNeg, Nat.reduceAdd, Nat.reduceLeDiff, Nat.reduceEqDiff, ne_eq, List.length_cons, List.length_nil, Nat.reduceSub, ite10_0, ite10_1, ite10_01, Classical.not_not, Int.le_refl]
    exact hQ
  · intro k hk ih
    have c1 : ¬ (n : Int) ≤ k := by omega
    have w1 : w32 ((k : Int) + 1) = (k : Int) + 1 := w32_id (by omega) (by omega)
    have cst : ((k + 1 : Nat) : Int) = (k : Int) + 1 := by omega
    have j1 : b < 2147483648 := by omega
    have j2 : k < 32 := by omega
    have hst := sb_step (n := k) (b := b) (p := p)
    unfold sbV at ih ⊢
    rw [← hst, cst] at ih
    clear hst hQ
    rw [e_MO_sumBy_1]
    simp only [k_MO_sumBy_1, e_MO_sumBy_2, k_MO_sumBy_2, e_MO_sumBy_3, k_MO_sumBy_3, rr, sh, Nat.reduceLT, Nat.reduceMul, Int.reduceToNat, Int.reduceGT, Int.reduceGE, Int.reduceNe, true_and, and_true, true_or, or_true, false_or, or_false, and_self, or_self, if_true, if_false, reduceIte, not_true_eq_false, not_false_eq_true, Int.reduceEq, Int.reduceNe, Int.reduceLT, Int.reduceLE, Int.reduceAdd, Int.reduceSub, Int.reduceMul, Int.reduceNeg, Nat.reduceAdd, Nat.reduceLeDiff, Nat.reduceEqDiff, ne_eq, List.length_cons, List.length_nil, Nat.reduceSub, ite10_0, ite10_1, ite10_01, Classical.not_not, c1, w1, q_raised hp, b_bit j1 j2] <;> clear w1
    by_cases h : b.testBit k = true
    · rw [if_pos h] at ih; rw [if_neg (fun q => q h)]; exact ih
    · rw [if_neg h] at ih; rw [if_pos h]; exact ih
theorem q_stillM {n b : Int} : CC (d + 2) MO_still [va 71, vi n, vi b] H Q = Q (vi (stlS n b)) H := by
  refine CC_dt fun Q hQ => ?_
  unfold stlS at hQ
  by_cases hk : 1 ≤ n ∧ n ≤ 16
  · obtain ⟨n, rfl⟩ := Int.eq_ofNat_of_zero_le (show 0 ≤ n by omega)
    rw [Int.toNat_natCast] at hQ
    have h2 := pow16 (show n ≤ 16 by omega)
    have e0 := one_shl16 (show n ≤ 16 by omega)
    have hn : n ≤ 16 := by omega
    generalize 2 ^ n = P at hQ h2 e0
    have w1 : w32 ((P : Int) - 1) = (P : Int) - 1 := w32_id (by omega) (by omega)
    by_cases hb : 0 ≤ b ∧ b ≤ (P : Int) - 1
    · rw [if_pos ⟨hk, by omega⟩] at hQ
      simp only [en_MO_still, e_MO_still_0, k_MO_still_0, e_MO_still_1, k_MO_still_1, e_MO_still_2, k_MO_still_2, rr, sh, Nat.reduceLT, Nat.reduceMul, Int.reduceToNat, Int.reduceGT, Int.reduceGE, Int.reduceNe, true_and, and_true, true_or, or_true, false_or, or_false, and_self, or_self, if_true, if_false, reduceIte, not_true_eq_false, not_false_eq_true, Int.reduceEq, Int.reduceNe, Int.reduceLT, Int.reduceLE, Int.reduceAdd, Int.reduceSub, Int.reduceMul, Int.reduceNeg, Nat.reduceAdd, Nat.reduceLeDiff, Nat.reduceEqDiff, ne_eq, List.length_cons, List.length_nil, Nat.reduceSub, ite10_0, ite10_1, ite10_01, Classical.not_not, q_isIn, hk, e0, w1, hb] <;> clear e0 w1
      obtain ⟨b, rfl⟩ := Int.eq_ofNat_of_zero_le hb.1
      rw [Int.toNat_natCast] at hQ
      have hb6 : b < 65536 := by omega
      clear h2 hb hk
      refine up_nat (P := fun p => stG (sbV n b) p (6 - p) = stG (sbV n b) 0 6 → R (d + 2) MO_still (blk MO_still 3) [va 71, vi n, vi b, vi p] [] H Q) ?_ ?_ 0 (Nat.zero_le 6) rfl
      · intro he
        rw [← he] at hQ
        rw [e_MO_still_3]
        simp only [k_MO_still_3, e_MO_still_4, k_MO_still_4, rr, sh, Nat.reduceLT, Nat.reduceMul, Int.reduceToNat, Int.reduceGT, Int.reduceGE, Int.reduceNe, true_and, and_true, true_or, or_true, false_or, or_false, and_self, or_self, if_true, if_false, reduceIte, not_true_eq_false, not_false_eq_true, Int.reduceEq, Int.reduceNe, Int.reduceLT, Int.reduceLE, Int.reduceAdd, Int.reduceSub, Int.reduceMul, Int.reduceNeg, Nat.reduceAdd, Nat.reduceLeDiff, Nat.reduceEqDiff, ne_eq, List.length_cons, List.length_nil, Nat.reduceSub, ite10_0, ite10_1, ite10_01, Classical.not_not]
        exact hQ
      · intro p hp ih he
        have c1 : ¬ 5 < (p : Int) := by omega
        have hp9 : p < 100 := by omega
        have k1 : w32 ((p : Int) - 1) = (p : Int) - 1 := w32_id (by omega) (by omega)
        have e6 : 6 - p = (6 - (p + 1)) + 1 := by omega
        rw [e6] at he
        have he : (if sbV n b p = 0 then stG (sbV n b) (p + 1) (6 - (p + 1)) else (p : Int) - 1) = _ := he
        rw [e_MO_still_3]
        simp only [k_MO_still_3, e_MO_still_4, k_MO_still_4, rr, sh, Nat.reduceLT, Nat.reduceMul, Int.reduceToNat, Int.reduceGT, Int.reduceGE, Int.reduceNe, true_and, and_true, true_or, or_true, false_or, or_false, and_self, or_self, if_true, if_false, reduceIte, not_true_eq_false, not_false_eq_true, Int.reduceEq, Int.reduceNe, Int.reduceLT, Int.reduceLE, Int.reduceAdd, Int.reduceSub, Int.reduceMul, Int.reduceNeg, Nat.reduceAdd, Nat.reduceLeDiff, Nat.reduceEqDiff, ne_eq, List.length_cons, List.length_nil, Nat.reduceSub, c1, c3_eq, q_sumBy hn hb6 hp9, k1, w32_s (show p < 2147483647 by omega)]
        by_cases h : sbV n b p = 0
        · rw [if_pos h] at he
          rw [if_neg (fun q => q h)]
          exact ih he
        · rw [if_neg h] at he
          rw [← he] at hQ
          rw [if_pos h]
          exact hQ
    · rw [if_neg (by omega)] at hQ
      simp only [en_MO_still, e_MO_still_0, k_MO_still_0, e_MO_still_1, k_MO_still_1, e_MO_still_2, k_MO_still_2, rr, sh, Nat.reduceLT, Nat.reduceMul, Int.reduceToNat, Int.reduceGT, Int.reduceGE, Int.reduceNe, true_and, and_true, true_or, or_true, false_or, or_false, and_self, or_self, if_true, if_false, reduceIte, not_true_eq_false, not_false_eq_true, Int.reduceEq, Int.reduceNe, Int.reduceLT, Int.reduceLE, Int.reduceAdd, Int.reduceSub, Int.reduceMul, Int.reduceNeg, Nat.reduceAdd, Nat.reduceLeDiff, Nat.reduceEqDiff, ne_eq, List.length_cons, List.length_nil, Nat.reduceSub, ite10_0, ite10_1, ite10_01, Classical.not_not, q_isIn, hk, e0, w1, hb] <;> clear e0 w1
      exact hQ
  · rw [if_neg (fun q => hk q.1)] at hQ
    simp only [en_MO_still, e_MO_still_0, k_MO_still_0, e_MO_still_1, k_MO_still_1, e_MO_still_2, k_MO_still_2, rr, sh, Nat.reduceLT, Nat.reduceMul, Int.reduceToNat, Int.reduceGT, Int.reduceGE, Int.reduceNe, true_and, and_true, true_or, or_true, false_or, or_false, and_self, or_self, if_true, if_false, reduceIte, not_true_eq_false, not_false_eq_true, Int.reduceEq, Int.reduceNe, Int.reduceLT, Int.reduceLE, Int.reduceAdd, Int.reduceSub, Int.reduceMul, Int.reduceNeg, Nat.reduceAdd, Nat.reduceLeDiff, Nat.reduceEqDiff, ne_eq, List.length_cons, List.length_nil, Nat.reduceSub, ite10_0, ite10_1, ite10_01, Classical.not_not, q_isIn, hk]
    exact hQ
theorem q_stillC {n b : Int} : CC (d + 2) EO_still [va 1, vi n, vi b] H Q = Q (vi (stlS n b)) H := by
  refine CC_dt fun Q hQ => ?_
  unfold stlS at hQ
  by_cases hk : 1 ≤ n ∧ n ≤ 16
  · obtain ⟨n, rfl⟩ := Int.eq_ofNat_of_zero_le (show 0 ≤ n by omega)
    rw [Int.toNat_natCast] at hQ
    have c1 : ¬ (n : Int) < 1 := by omega
    have c2 : ¬ 16 < (n : Int) := by omega
    have h2 := pow16 (show n ≤ 16 by omega)
    have e0 := one_shl16 (show n ≤ 16 by omega)
    have hn : n ≤ 16 := by omega
    generalize 2 ^ n = P at hQ h2 e0
    by_cases hb : 0 ≤ b ∧ b < (P : Int)
    · rw [if_pos ⟨hk, hb⟩] at hQ
      have c3 : ¬ b < 0 := by omega
      simp only [en_EO_still, e_EO_still_0, k_EO_still_0, en_HV_stillUpTo, e_HV_stillUpTo_0, k_HV_stillUpTo_0, e_HV_stillUpTo_1, k_HV_stillUpTo_1, e_HV_stillUpTo_2, k_HV_stillUpTo_2, rr, sh, Nat.reduceLT, Nat.reduceMul, Int.reduceToNat, Int.reduceGT, Int.reduceGE, Int.reduceNe, true_and, and_true, true_or, or_true, false_or, or_false, and_self, or_self, if_true, if_false, reduceIte, not_true_eq_false, not_false_eq_true, Int.reduceEq, Int.reduceNe, Int.reduceLT, Int.reduceLE, Int.reduceAdd, Int.reduceSub, Int.reduceMul, Int.reduceNeg, Nat.reduceAdd, Nat.reduceLeDiff, Nat.reduceEqDiff, ne_eq, List.length_cons, List.length_nil, Nat.reduceSub, ite10_0, ite10_1, ite10_01, Classical.not_not, c1, c2, c3, e0, hb] <;> clear e0
      obtain ⟨b, rfl⟩ := Int.eq_ofNat_of_zero_le hb.1
      rw [Int.toNat_natCast] at hQ
      have hb6 : b < 65536 := by omega
      clear h2 hb hk
      refine up_nat (P := fun p => ∀ x y z, stG (sbV n b) p (6 - p) = stG (sbV n b) 0 6 → R (d + 1) HV_stillUpTo (blk HV_stillUpTo 3) [vi n, vi b, vi p, x, vu, y, z, vu] [] H (fun r H1 => R (d + 1 + 1) EO_still [x_ri] [va 1, vi n, vi b] [r] H1 Q)) ?_ ?_ 0 (Nat.zero_le 6) vu vu vu rfl
      · intro x y z he
        rw [← he] at hQ
        rw [e_HV_stillUpTo_3]
        simp only [k_HV_stillUpTo_3, e_HV_stillUpTo_9, k_HV_stillUpTo_9, rr, sh, Nat.reduceLT, Nat.reduceMul, Int.reduceToNat, Int.reduceGT, Int.reduceGE, Int.reduceNe, true_and, and_true, true_or, or_true, false_or, or_false, and_self, or_self, if_true, if_false, reduceIte, not_true_eq_false, not_false_eq_true, Int.reduceEq, Int.reduceNe, Int.reduceLT, Int.reduceLE, Int.reduceAdd, Int.reduceSub, Int.reduceMul, Int.reduceNeg, Nat.reduceAdd, Nat.reduceLeDiff, Nat.reduceEqDiff, ne_eq, List.length_cons, List.length_nil, Nat.reduceSub, ite10_0, ite10_1, ite10_01, Classical.not_not]
        exact hQ
      · intro p hp ih x y z he
        have c4 : ¬ 5 < (p : Int) := by omega
        have hp9 : p < 100 := by omega
        have k1 : w32 ((p : Int) - 1) = (p : Int) - 1 := w32_id (by omega) (by omega)
        have kp : w32 ((p : Int) + 1) = ((p + 1 : Nat) : Int) := w32_s (by omega)
        have hkk : ∀ k : Nat, k < n → (¬ (n : Int) ≤ k) ∧ w32 ((k : Int) + 1) = (k : Int) + 1 ∧ ((k + 1 : Nat) : Int) = (k : Int) + 1 ∧ k < 32 := fun k hk => ⟨by omega, w32_id (by omega) (by omega), by omega, by omega⟩
        have j1 : b < 2147483648 := by omega
        have e6 : 6 - p = (6 - (p + 1)) + 1 := by omega
        rw [e6] at he
        have he : (if sbV n b p = 0 then stG (sbV n b) (p + 1) (6 - (p + 1)) else (p : Int) - 1) = _ := he
        rw [e_HV_stillUpTo_3]
        simp only [k_HV_stillUpTo_3, rr, sh, Nat.reduceLT, Nat.reduceMul, Int.reduceToNat, Int.reduceGT, Int.reduceGE, Int.reduceNe, true_and, and_true, true_or, or_true, false_or, or_false, and_self, or_self, if_true, if_false, reduceIte, not_true_eq_false, not_false_eq_true, Int.reduceEq, Int.reduceNe, Int.reduceLT, Int.reduceLE, Int.reduceAdd, Int.reduceSub, Int.reduceMul, Int.reduceNeg, Nat.reduceAdd, Nat.reduceLeDiff, Nat.reduceEqDiff, ne_eq, List.length_cons, List.length_nil, Nat.reduceSub, ite10_0, ite10_1, ite10_01, Classical.not_not, c4]
        refine up_nat (P := fun k => ∀ z, R (d + 1) HV_stillUpTo (blk HV_stillUpTo 4) [vi n, vi b, vi p, vl (sbV k b p), vu, vi k, z, vu] [] H (fun r H1 => R (d + 1 + 1) EO_still [x_ri] [va 1, vi n, vi b] [r] H1 Q)) ?_ ?_ 0 (Nat.zero_le n) z
        · intro z
          rw [e_HV_stillUpTo_4]
          simp only [k_HV_stillUpTo_4, e_HV_stillUpTo_7, k_HV_stillUpTo_7, e_HV_stillUpTo_8, k_HV_stillUpTo_8, rr, sh, Nat.reduceLT, Nat.reduceMul, Int.reduceToNat, Int.reduceGT, Int.reduceGE, Int.reduceNe, true_and, and_true, true_or, or_true, false_or, or_false, and_self, or_self, if_true, if_false, reduceIte, not_true_eq_false, not_false_eq_true, Int.reduceEq, Int.reduceNe, Int.reduceLT, Int.reduceLE, Int.reduceAdd, Int.reduceSub, Int.reduceMul, Int.reduceNeg, Nat.reduceAdd, Nat.reduceLeDiff, Nat.reduceEqDiff, ne_eq, List.length_cons, List.length_nil, Nat.reduceSub, ite10_0, ite10_1, ite10_01, Classical.not_not, Int.le_refl, c3_eq, k1, kp]
          by_cases h : sbV n b p = 0
          · rw [if_pos h] at he
            rw [if_pos h]
            exact ih _ _ _ he
          · rw [if_neg h] at he
            rw [← he] at hQ
            rw [if_neg h]
            exact hQ
        · intro k hk ih2 z
          obtain ⟨c1, w1, cst, j2⟩ := hkk k hk
          have hst := sb_step (n := k) (b := b) (p := p)
          have ih3 := ih2 (vl (w64 (((k : Int) + 1) ^ p)))
          unfold sbV at ih3 ⊢
          rw [← hst, cst] at ih3
          clear hst hQ ih ih2 he
          rw [e_HV_stillUpTo_4]
          simp only [k_HV_stillUpTo_4, e_HV_stillUpTo_5, k_HV_stillUpTo_5, e_HV_stillUpTo_6, k_HV_stillUpTo_6, rr, sh, Nat.reduceLT, Nat.reduceMul, Int.reduceToNat, Int.reduceGT, Int.reduceGE, Int.reduceNe, true_and, and_true, true_or, or_true, false_or, or_false, and_self, or_self, if_true, if_false, reduceIte, not_true_eq_false, not_false_eq_true, Int.reduceEq, Int.reduceNe, Int.reduceLT, Int.reduceLE, Int.reduceAdd, Int.reduceSub, Int.reduceMul, Int.reduceNeg, Nat.reduceAdd, Nat.reduceLeDiff, Nat.reduceEqDiff, ne_eq, List.length_cons, List.length_nil, Nat.reduceSub, ite10_0, ite10_1, ite10_01, Classical.not_not, c1, w1, q_power hp9, b_bit j1 j2] <;> clear w1
          by_cases h : b.testBit k = true
          · rw [if_pos h] at ih3; rw [if_neg (fun q => q h)]; exact ih3
          · rw [if_neg h] at ih3; rw [if_pos h]; exact ih3
    · rw [if_neg (fun q => hb q.2)] at hQ
      by_cases c3 : b < 0
      · simp only [en_EO_still, e_EO_still_0, k_EO_still_0, en_HV_stillUpTo, e_HV_stillUpTo_0, k_HV_stillUpTo_0, e_HV_stillUpTo_1, k_HV_stillUpTo_1, e_HV_stillUpTo_2, k_HV_stillUpTo_2, rr, sh, Nat.reduceLT, Nat.reduceMul, Int.reduceToNat, Int.reduceGT, Int.reduceGE, Int.reduceNe, true_and, and_true, true_or, or_true, false_or, or_false, and_self, or_self, if_true, if_false, reduceIte, not_true_eq_false, not_false_eq_true, Int.reduceEq, Int.reduceNe, Int.reduceLT, Int.reduceLE, Int.reduceAdd, Int.reduceSub, Int.reduceMul, Int.reduceNeg, Nat.reduceAdd, Nat.reduceLeDiff, Nat.reduceEqDiff, ne_eq, List.length_cons, List.length_nil, Nat.reduceSub, ite10_0, ite10_1, ite10_01, Classical.not_not, c1, c2, c3]
        exact hQ
      · have c4 : ¬ b < (P : Int) := by omega
        simp only [en_EO_still, e_EO_still_0, k_EO_still_0, en_HV_stillUpTo, e_HV_stillUpTo_0, k_HV_stillUpTo_0, e_HV_stillUpTo_1, k_HV_stillUpTo_1, e_HV_stillUpTo_2, k_HV_stillUpTo_2, rr, sh, Nat.reduceLT, Nat.reduceMul, Int.reduceToNat, Int.reduceGT, Int.reduceGE, Int.reduceNe, true_and, and_true, true_or, or_true, false_or, or_false, and_self, or_self, if_true, if_false, reduceIte, not_true_eq_false, not_false_eq_true, Int.reduceEq, Int.reduceNe, Int.reduceLT, Int.reduceLE, Int.reduceAdd, Int.reduceSub, Int.reduceMul, Int.reduceNeg, Nat.reduceAdd, Nat.reduceLeDiff, Nat.reduceEqDiff, ne_eq, List.length_cons, List.length_nil, Nat.reduceSub, ite10_0, ite10_1, ite10_01, Classical.not_not, c1, c2, c3, e0, c4] <;> clear e0
        exact hQ
  · rw [if_neg (fun q => hk q.1)] at hQ
    by_cases c1 : n < 1
    · simp only [en_EO_still, e_EO_still_0, k_EO_still_0, en_HV_stillUpTo, e_HV_stillUpTo_0, k_HV_stillUpTo_0, e_HV_stillUpTo_1, k_HV_stillUpTo_1, e_HV_stillUpTo_2, k_HV_stillUpTo_2, rr, sh, Nat.reduceLT, Nat.reduceMul, Int.reduceToNat, Int.reduceGT, Int.reduceGE, Int.reduceNe, true_and, and_true, true_or, or_true, false_or, or_false, and_self, or_self, if_true, if_false, reduceIte, not_true_eq_false, not_false_eq_true, Int.reduceEq, Int.reduceNe, Int.reduceLT, Int.reduceLE, Int.reduceAdd, Int.reduceSub, Int.reduceMul, Int.reduceNeg, Nat.reduceAdd, Nat.reduceLeDiff, Nat.reduceEqDiff, ne_eq, List.length_cons, List.length_nil, Nat.reduceSub, ite10_0, ite10_1, ite10_01, Classical.not_not, c1]
      exact hQ
    · have c2 : 16 < n := by omega
      simp only [en_EO_still, e_EO_still_0, k_EO_still_0, en_HV_stillUpTo, e_HV_stillUpTo_0, k_HV_stillUpTo_0, e_HV_stillUpTo_1, k_HV_stillUpTo_1, e_HV_stillUpTo_2, k_HV_stillUpTo_2, rr, sh, Nat.reduceLT, Nat.reduceMul, Int.reduceToNat, Int.reduceGT, Int.reduceGE, Int.reduceNe, true_and, and_true, true_or, or_true, false_or, or_false, and_self, or_self, if_true, if_false, reduceIte, not_true_eq_false, not_false_eq_true, Int.reduceEq, Int.reduceNe, Int.reduceLT, Int.reduceLE, Int.reduceAdd, Int.reduceSub, Int.reduceMul, Int.reduceNeg, Nat.reduceAdd, Nat.reduceLeDiff, Nat.reduceEqDiff, ne_eq, List.length_cons, List.length_nil, Nat.reduceSub, ite10_0, ite10_1, ite10_01, Classical.not_not, c1, c2]
      exact hQ
end AL
