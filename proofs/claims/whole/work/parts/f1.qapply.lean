/-! QUESTIONS: the class applies a code -/
section QV2
variable {d : Nat} {V H : Hp} {Q : AV → Hp → Prop} {s : List Int} {x i : Int}
/-- what is kept for ten strokes -/
def KTn (V H : Hp) (t : Int) : Prop := H 38 5 = t / 10 ∧ (∀ q : Nat, q < 4 → H 41 q = qcl (w64 (sww V q (sdV V) t))) ∧ H 38 7 = qOf V t ∧ H 38 8 = qGd V t
theorem q_swingOf (hp : H 38 6 = 41) (h : ∀ q : Nat, q < 4 → H 41 q = qcl (w64 (sww V q (sdV V) i))) : CC d QU_swingOf [va 38, vl x] H Q = Q (vl (qSw V i x)) H := by
  refine CC_dt fun Q hQ => ?_
  by_cases c : 0 ≤ x ∧ x < 4
  · obtain ⟨n, rfl⟩ := Int.eq_ofNat_of_zero_le c.1
    have hn : n < 4 := by omega
    have e : qSw V i (n : Int) = H 41 n := by
      unfold qSw
      rw [if_pos c, h n hn, Int.toNat_natCast]
    rw [e] at hQ
    have c1 : ¬ (n : Int) < 0 := by omega
    have c2 : ¬ (4 : Int) ≤ (n : Int) := by omega
    have w1 : w32 (n : Int) = n := w32_id (by omega) (by omega)
    simp only [en_QU_swingOf, e_QU_swingOf_0, k_QU_swingOf_0, e_QU_swingOf_1, k_QU_swingOf_1, e_QU_swingOf_2, k_QU_swingOf_2, rr, sh, Nat.reduceLT, Nat.reduceMul, Int.reduceToNat, Int.reduceGT, Int.reduceGE, Int.reduceNe, true_and, and_true, true_or, or_true, false_or, or_false, and_self, or_self, if_true, if_false, reduceIte, not_true_eq_false, not_false_eq_true, Int.reduceEq, Int.reduceNe, Int.reduceLT, Int.reduceLE, Int.reduceAdd, Int.reduceSub, Int.reduceMul, Int.reduceNeg, Nat.reduceAdd, Nat.reduceLeDiff, Nat.reduceEqDiff, ne_eq, List.length_cons, List.length_nil, Nat.reduceSub, c3_lt, c3_ge, hp, c1, c2, w1, c]
    exact hQ
  · have e : qSw V i x = 0 := by unfold qSw; rw [if_neg c]
    rw [e] at hQ
    by_cases c1 : x < 0
    · simp only [en_QU_swingOf, e_QU_swingOf_0, k_QU_swingOf_0, e_QU_swingOf_1, k_QU_swingOf_1, e_QU_swingOf_2, k_QU_swingOf_2, rr, sh, Nat.reduceLT, Nat.reduceMul, Int.reduceToNat, Int.reduceGT, Int.reduceGE, Int.reduceNe, true_and, and_true, true_or, or_true, false_or, or_false, and_self, or_self, if_true, if_false, reduceIte, not_true_eq_false, not_false_eq_true, Int.reduceEq, Int.reduceNe, Int.reduceLT, Int.reduceLE, Int.reduceAdd, Int.reduceSub, Int.reduceMul, Int.reduceNeg, Nat.reduceAdd, Nat.reduceLeDiff, Nat.reduceEqDiff, ne_eq, List.length_cons, List.length_nil, Nat.reduceSub, c3_lt, c3_ge, c1]
      exact hQ
    · have c2 : (4 : Int) ≤ x := by omega
      simp only [en_QU_swingOf, e_QU_swingOf_0, k_QU_swingOf_0, e_QU_swingOf_1, k_QU_swingOf_1, e_QU_swingOf_2, k_QU_swingOf_2, rr, sh, Nat.reduceLT, Nat.reduceMul, Int.reduceToNat, Int.reduceGT, Int.reduceGE, Int.reduceNe, true_and, and_true, true_or, or_true, false_or, or_false, and_self, or_self, if_true, if_false, reduceIte, not_true_eq_false, not_false_eq_true, Int.reduceEq, Int.reduceNe, Int.reduceLT, Int.reduceLE, Int.reduceAdd, Int.reduceSub, Int.reduceMul, Int.reduceNeg, Nat.reduceAdd, Nat.reduceLeDiff, Nat.reduceEqDiff, ne_eq, List.length_cons, List.length_nil, Nat.reduceSub, c3_lt, c3_ge, c1, c2]
      exact hQ
theorem q_forceOf (hI : Inq V) (hH : Vw V H) (h0 : 0 ≤ i) (h9 : i ≤ 9999) : CC (d + 2) QU_forceOf [va 4, vl x, vi i] H Q = Q (vl (qFr V i x)) H := by
  refine CC_dt fun Q hQ => ?_
  have hr := hI.boat.r
  by_cases c : 0 ≤ x ∧ x < 12
  · have c1 : ¬ x < 0 := by omega
    have c2 : ¬ (12 : Int) ≤ x := by omega
    have w1 : w32 x = x := w32_id (by omega) (by omega)
    simp only [en_QU_forceOf, e_QU_forceOf_0, k_QU_forceOf_0, e_QU_forceOf_1, k_QU_forceOf_1, e_QU_forceOf_2, k_QU_forceOf_2, rr, sh, Nat.reduceLT, Nat.reduceMul, Int.reduceToNat, Int.reduceGT, Int.reduceGE, Int.reduceNe, true_and, and_true, true_or, or_true, false_or, or_false, and_self, or_self, if_true, if_false, reduceIte, not_true_eq_false, not_false_eq_true, Int.reduceEq, Int.reduceNe, Int.reduceLT, Int.reduceLE, Int.reduceAdd, Int.reduceSub, Int.reduceMul, Int.reduceNeg, Nat.reduceAdd, Nat.reduceLeDiff, Nat.reduceEqDiff, ne_eq, List.length_cons, List.length_nil, Nat.reduceSub, c3_lt, c3_ge, c1, c2, w1, q_strengthAt hI hH h0 (Int.le_trans h9 (by decide))]
    exact hQ
  · have e : qFr V i x = 0 := by unfold qFr; rw [if_neg (by omega)]
    rw [e] at hQ
    by_cases c1 : x < 0
    · simp only [en_QU_forceOf, e_QU_forceOf_0, k_QU_forceOf_0, e_QU_forceOf_1, k_QU_forceOf_1, e_QU_forceOf_2, k_QU_forceOf_2, rr, sh, Nat.reduceLT, Nat.reduceMul, Int.reduceToNat, Int.reduceGT, Int.reduceGE, Int.reduceNe, true_and, and_true, true_or, or_true, false_or, or_false, and_self, or_self, if_true, if_false, reduceIte, not_true_eq_false, not_false_eq_true, Int.reduceEq, Int.reduceNe, Int.reduceLT, Int.reduceLE, Int.reduceAdd, Int.reduceSub, Int.reduceMul, Int.reduceNeg, Nat.reduceAdd, Nat.reduceLeDiff, Nat.reduceEqDiff, ne_eq, List.length_cons, List.length_nil, Nat.reduceSub, c3_lt, c3_ge, c1]
      exact hQ
    · have c2 : (12 : Int) ≤ x := by omega
      simp only [en_QU_forceOf, e_QU_forceOf_0, k_QU_forceOf_0, e_QU_forceOf_1, k_QU_forceOf_1, e_QU_forceOf_2, k_QU_forceOf_2, rr, sh, Nat.reduceLT, Nat.reduceMul, Int.reduceToNat, Int.reduceGT, Int.reduceGE, Int.reduceNe, true_and, and_true, true_or, or_true, false_or, or_false, and_self, or_self, if_true, if_false, reduceIte, not_true_eq_false, not_false_eq_true, Int.reduceEq, Int.reduceNe, Int.reduceLT, Int.reduceLE, Int.reduceAdd, Int.reduceSub, Int.reduceMul, Int.reduceNeg, Nat.reduceAdd, Nat.reduceLeDiff, Nat.reduceEqDiff, ne_eq, List.length_cons, List.length_nil, Nat.reduceSub, c3_lt, c3_ge, c1, c2]
      exact hQ
/-- codes of two -/
def is2 (e : Int) : Prop := e = -7 ∨ e = -8 ∨ e = -16 ∨ e = -17 ∨ e = -18 ∨ e = -19 ∨ e = -20 ∨ e = -21 ∨ e = -22 ∨ e = -23 ∨ e = -24
set_option maxRecDepth 20000 in
theorem q_joined {e l r : Int} (he : is2 e) (hl : BdQ l) (hr : BdQ r) : CC (d + 2) QU_joined [vi (-1 - e), vl l, vl r] H Q = Q (vl (qJn e l r)) H := by
  refine CC_dt fun Q hQ => ?_
  obtain ⟨b1, b2⟩ := bd_add hl hr
  have w1 := w64_q b1
  have w2 := w64_q b2
  have b3 := bd_mul hl hr
  have w3 : w64 (l * r) = l * r := by
    generalize l * r = z at b3 ⊢
    exact w64_q (by clear w1 w2; omega)
  clear b1 b2 b3
  rcases he with rfl | rfl | rfl | rfl | rfl | rfl | rfl | rfl | rfl | rfl | rfl
  · simp only [en_QU_joined, e_QU_joined_0, k_QU_joined_0, e_QU_joined_1, k_QU_joined_1, e_QU_joined_2, k_QU_joined_2, e_QU_joined_3, k_QU_joined_3, e_QU_joined_4, k_QU_joined_4, e_QU_joined_5, k_QU_joined_5, e_QU_joined_6, k_QU_joined_6, e_QU_joined_7, k_QU_joined_7, e_QU_joined_8, k_QU_joined_8, e_QU_joined_9, k_QU_joined_9, e_QU_joined_10, k_QU_joined_10, e_QU_joined_11, k_QU_joined_11, e_QU_joined_12, k_QU_joined_12, e_QU_joined_13, k_QU_joined_13, e_QU_joined_14, k_QU_joined_14, e_QU_joined_15, k_QU_joined_15, e_QU_joined_16, k_QU_joined_16, e_QU_joined_17, k_QU_joined_17, e_QU_joined_18, k_QU_joined_18, e_QU_joined_19, k_QU_joined_19, rr, sh, Nat.reduceLT, Nat.reduceMul, Int.reduceToNat, Int.reduceGT, Int.reduceGE, Int.reduceNe, true_and, and_true, true_or, or_true, false_or, or_false, and_self, or_self, if_true, if_false, reduceIte, not_true_eq_false, not_false_eq_true, Int.reduceEq, Int.reduceNe, Int.reduceLT, Int.reduceLE, Int.reduceAdd, Int.reduceSub, Int.reduceMul, Int.reduceNeg, Nat.reduceAdd, Nat.reduceLeDiff, Nat.reduceEqDiff, ne_eq, List.length_cons, List.length_nil, Nat.reduceSub, q_maxL]
    exact hQ
  · simp only [en_QU_joined, e_QU_joined_0, k_QU_joined_0, e_QU_joined_1, k_QU_joined_1, e_QU_joined_2, k_QU_joined_2, e_QU_joined_3, k_QU_joined_3, e_QU_joined_4, k_QU_joined_4, e_QU_joined_5, k_QU_joined_5, e_QU_joined_6, k_QU_joined_6, e_QU_joined_7, k_QU_joined_7, e_QU_joined_8, k_QU_joined_8, e_QU_joined_9, k_QU_joined_9, e_QU_joined_10, k_QU_joined_10, e_QU_joined_11, k_QU_joined_11, e_QU_joined_12, k_QU_joined_12, e_QU_joined_13, k_QU_joined_13, e_QU_joined_14, k_QU_joined_14, e_QU_joined_15, k_QU_joined_15, e_QU_joined_16, k_QU_joined_16, e_QU_joined_17, k_QU_joined_17, e_QU_joined_18, k_QU_joined_18, e_QU_joined_19, k_QU_joined_19, rr, sh, Nat.reduceLT, Nat.reduceMul, Int.reduceToNat, Int.reduceGT, Int.reduceGE, Int.reduceNe, true_and, and_true, true_or, or_true, false_or, or_false, and_self, or_self, if_true, if_false, reduceIte, not_true_eq_false, not_false_eq_true, Int.reduceEq, Int.reduceNe, Int.reduceLT, Int.reduceLE, Int.reduceAdd, Int.reduceSub, Int.reduceMul, Int.reduceNeg, Nat.reduceAdd, Nat.reduceLeDiff, Nat.reduceEqDiff, ne_eq, List.length_cons, List.length_nil, Nat.reduceSub, q_minL]
    exact hQ
  · simp only [en_QU_joined, e_QU_joined_0, k_QU_joined_0, e_QU_joined_1, k_QU_joined_1, e_QU_joined_2, k_QU_joined_2, e_QU_joined_3, k_QU_joined_3, e_QU_joined_4, k_QU_joined_4, e_QU_joined_5, k_QU_joined_5, e_QU_joined_6, k_QU_joined_6, e_QU_joined_7, k_QU_joined_7, e_QU_joined_8, k_QU_joined_8, e_QU_joined_9, k_QU_joined_9, e_QU_joined_10, k_QU_joined_10, e_QU_joined_11, k_QU_joined_11, e_QU_joined_12, k_QU_joined_12, e_QU_joined_13, k_QU_joined_13, e_QU_joined_14, k_QU_joined_14, e_QU_joined_15, k_QU_joined_15, e_QU_joined_16, k_QU_joined_16, e_QU_joined_17, k_QU_joined_17, e_QU_joined_18, k_QU_joined_18, e_QU_joined_19, k_QU_joined_19, rr, sh, Nat.reduceLT, Nat.reduceMul, Int.reduceToNat, Int.reduceGT, Int.reduceGE, Int.reduceNe, true_and, and_true, true_or, or_true, false_or, or_false, and_self, or_self, if_true, if_false, reduceIte, not_true_eq_false, not_false_eq_true, Int.reduceEq, Int.reduceNe, Int.reduceLT, Int.reduceLE, Int.reduceAdd, Int.reduceSub, Int.reduceMul, Int.reduceNeg, Nat.reduceAdd, Nat.reduceLeDiff, Nat.reduceEqDiff, ne_eq, List.length_cons, List.length_nil, Nat.reduceSub, q_minL]
    exact hQ
  · simp only [en_QU_joined, e_QU_joined_0, k_QU_joined_0, e_QU_joined_1, k_QU_joined_1, e_QU_joined_2, k_QU_joined_2, e_QU_joined_3, k_QU_joined_3, e_QU_joined_4, k_QU_joined_4, e_QU_joined_5, k_QU_joined_5, e_QU_joined_6, k_QU_joined_6, e_QU_joined_7, k_QU_joined_7, e_QU_joined_8, k_QU_joined_8, e_QU_joined_9, k_QU_joined_9, e_QU_joined_10, k_QU_joined_10, e_QU_joined_11, k_QU_joined_11, e_QU_joined_12, k_QU_joined_12, e_QU_joined_13, k_QU_joined_13, e_QU_joined_14, k_QU_joined_14, e_QU_joined_15, k_QU_joined_15, e_QU_joined_16, k_QU_joined_16, e_QU_joined_17, k_QU_joined_17, e_QU_joined_18, k_QU_joined_18, e_QU_joined_19, k_QU_joined_19, rr, sh, Nat.reduceLT, Nat.reduceMul, Int.reduceToNat, Int.reduceGT, Int.reduceGE, Int.reduceNe, true_and, and_true, true_or, or_true, false_or, or_false, and_self, or_self, if_true, if_false, reduceIte, not_true_eq_false, not_false_eq_true, Int.reduceEq, Int.reduceNe, Int.reduceLT, Int.reduceLE, Int.reduceAdd, Int.reduceSub, Int.reduceMul, Int.reduceNeg, Nat.reduceAdd, Nat.reduceLeDiff, Nat.reduceEqDiff, ne_eq, List.length_cons, List.length_nil, Nat.reduceSub, q_maxL]
    exact hQ
  · simp only [en_QU_joined, e_QU_joined_0, k_QU_joined_0, e_QU_joined_1, k_QU_joined_1, e_QU_joined_2, k_QU_joined_2, e_QU_joined_3, k_QU_joined_3, e_QU_joined_4, k_QU_joined_4, e_QU_joined_5, k_QU_joined_5, e_QU_joined_6, k_QU_joined_6, e_QU_joined_7, k_QU_joined_7, e_QU_joined_8, k_QU_joined_8, e_QU_joined_9, k_QU_joined_9, e_QU_joined_10, k_QU_joined_10, e_QU_joined_11, k_QU_joined_11, e_QU_joined_12, k_QU_joined_12, e_QU_joined_13, k_QU_joined_13, e_QU_joined_14, k_QU_joined_14, e_QU_joined_15, k_QU_joined_15, e_QU_joined_16, k_QU_joined_16, e_QU_joined_17, k_QU_joined_17, e_QU_joined_18, k_QU_joined_18, e_QU_joined_19, k_QU_joined_19, rr, sh, Nat.reduceLT, Nat.reduceMul, Int.reduceToNat, Int.reduceGT, Int.reduceGE, Int.reduceNe, true_and, and_true, true_or, or_true, false_or, or_false, and_self, or_self, if_true, if_false, reduceIte, not_true_eq_false, not_false_eq_true, Int.reduceEq, Int.reduceNe, Int.reduceLT, Int.reduceLE, Int.reduceAdd, Int.reduceSub, Int.reduceMul, Int.reduceNeg, Nat.reduceAdd, Nat.reduceLeDiff, Nat.reduceEqDiff, ne_eq, List.length_cons, List.length_nil, Nat.reduceSub, q_heldC, w1]
    exact hQ
  · simp only [en_QU_joined, e_QU_joined_0, k_QU_joined_0, e_QU_joined_1, k_QU_joined_1, e_QU_joined_2, k_QU_joined_2, e_QU_joined_3, k_QU_joined_3, e_QU_joined_4, k_QU_joined_4, e_QU_joined_5, k_QU_joined_5, e_QU_joined_6, k_QU_joined_6, e_QU_joined_7, k_QU_joined_7, e_QU_joined_8, k_QU_joined_8, e_QU_joined_9, k_QU_joined_9, e_QU_joined_10, k_QU_joined_10, e_QU_joined_11, k_QU_joined_11, e_QU_joined_12, k_QU_joined_12, e_QU_joined_13, k_QU_joined_13, e_QU_joined_14, k_QU_joined_14, e_QU_joined_15, k_QU_joined_15, e_QU_joined_16, k_QU_joined_16, e_QU_joined_17, k_QU_joined_17, e_QU_joined_18, k_QU_joined_18, e_QU_joined_19, k_QU_joined_19, rr, sh, Nat.reduceLT, Nat.reduceMul, Int.reduceToNat, Int.reduceGT, Int.reduceGE, Int.reduceNe, true_and, and_true, true_or, or_true, false_or, or_false, and_self, or_self, if_true, if_false, reduceIte, not_true_eq_false, not_false_eq_true, Int.reduceEq, Int.reduceNe, Int.reduceLT, Int.reduceLE, Int.reduceAdd, Int.reduceSub, Int.reduceMul, Int.reduceNeg, Nat.reduceAdd, Nat.reduceLeDiff, Nat.reduceEqDiff, ne_eq, List.length_cons, List.length_nil, Nat.reduceSub, q_heldC, w2]
    exact hQ
  · simp only [en_QU_joined, e_QU_joined_0, k_QU_joined_0, e_QU_joined_1, k_QU_joined_1, e_QU_joined_2, k_QU_joined_2, e_QU_joined_3, k_QU_joined_3, e_QU_joined_4, k_QU_joined_4, e_QU_joined_5, k_QU_joined_5, e_QU_joined_6, k_QU_joined_6, e_QU_joined_7, k_QU_joined_7, e_QU_joined_8, k_QU_joined_8, e_QU_joined_9, k_QU_joined_9, e_QU_joined_10, k_QU_joined_10, e_QU_joined_11, k_QU_joined_11, e_QU_joined_12, k_QU_joined_12, e_QU_joined_13, k_QU_joined_13, e_QU_joined_14, k_QU_joined_14, e_QU_joined_15, k_QU_joined_15, e_QU_joined_16, k_QU_joined_16, e_QU_joined_17, k_QU_joined_17, e_QU_joined_18, k_QU_joined_18, e_QU_joined_19, k_QU_joined_19, rr, sh, Nat.reduceLT, Nat.reduceMul, Int.reduceToNat, Int.reduceGT, Int.reduceGE, Int.reduceNe, true_and, and_true, true_or, or_true, false_or, or_false, and_self, or_self, if_true, if_false, reduceIte, not_true_eq_false, not_false_eq_true, Int.reduceEq, Int.reduceNe, Int.reduceLT, Int.reduceLE, Int.reduceAdd, Int.reduceSub, Int.reduceMul, Int.reduceNeg, Nat.reduceAdd, Nat.reduceLeDiff, Nat.reduceEqDiff, ne_eq, List.length_cons, List.length_nil, Nat.reduceSub, q_heldC, w3]
    exact hQ
  · by_cases c : r = 0
    · have e : qJn (-21) l r = 0 := by
        show qFl l r = 0
        unfold qFl
        rw [if_pos c]
      rw [e] at hQ
      simp only [en_QU_joined, e_QU_joined_0, k_QU_joined_0, e_QU_joined_1, k_QU_joined_1, e_QU_joined_2, k_QU_joined_2, e_QU_joined_3, k_QU_joined_3, e_QU_joined_4, k_QU_joined_4, e_QU_joined_5, k_QU_joined_5, e_QU_joined_6, k_QU_joined_6, e_QU_joined_7, k_QU_joined_7, e_QU_joined_8, k_QU_joined_8, e_QU_joined_9, k_QU_joined_9, e_QU_joined_10, k_QU_joined_10, e_QU_joined_11, k_QU_joined_11, e_QU_joined_12, k_QU_joined_12, e_QU_joined_13, k_QU_joined_13, e_QU_joined_14, k_QU_joined_14, e_QU_joined_15, k_QU_joined_15, e_QU_joined_16, k_QU_joined_16, e_QU_joined_17, k_QU_joined_17, e_QU_joined_18, k_QU_joined_18, e_QU_joined_19, k_QU_joined_19, rr, sh, Nat.reduceLT, Nat.reduceMul, Int.reduceToNat, Int.reduceGT, Int.reduceGE, Int.reduceNe, true_and, and_true, true_or, or_true, false_or, or_false, and_self, or_self, if_true, if_false, reduceIte, not_true_eq_false, not_false_eq_true, Int.reduceEq, Int.reduceNe, Int.reduceLT, Int.reduceLE, Int.reduceAdd, Int.reduceSub, Int.reduceMul, Int.reduceNeg, Nat.reduceAdd, Nat.reduceLeDiff, Nat.reduceEqDiff, ne_eq, List.length_cons, List.length_nil, Nat.reduceSub, c3_eq, c]
      exact hQ
    · simp only [en_QU_joined, e_QU_joined_0, k_QU_joined_0, e_QU_joined_1, k_QU_joined_1, e_QU_joined_2, k_QU_joined_2, e_QU_joined_3, k_QU_joined_3, e_QU_joined_4, k_QU_joined_4, e_QU_joined_5, k_QU_joined_5, e_QU_joined_6, k_QU_joined_6, e_QU_joined_7, k_QU_joined_7, e_QU_joined_8, k_QU_joined_8, e_QU_joined_9, k_QU_joined_9, e_QU_joined_10, k_QU_joined_10, e_QU_joined_11, k_QU_joined_11, e_QU_joined_12, k_QU_joined_12, e_QU_joined_13, k_QU_joined_13, e_QU_joined_14, k_QU_joined_14, e_QU_joined_15, k_QU_joined_15, e_QU_joined_16, k_QU_joined_16, e_QU_joined_17, k_QU_joined_17, e_QU_joined_18, k_QU_joined_18, e_QU_joined_19, k_QU_joined_19, rr, sh, Nat.reduceLT, Nat.reduceMul, Int.reduceToNat, Int.reduceGT, Int.reduceGE, Int.reduceNe, true_and, and_true, true_or, or_true, false_or, or_false, and_self, or_self, if_true, if_false, reduceIte, not_true_eq_false, not_false_eq_true, Int.reduceEq, Int.reduceNe, Int.reduceLT, Int.reduceLE, Int.reduceAdd, Int.reduceSub, Int.reduceMul, Int.reduceNeg, Nat.reduceAdd, Nat.reduceLeDiff, Nat.reduceEqDiff, ne_eq, List.length_cons, List.length_nil, Nat.reduceSub, c3_eq, c, q_fdC hl hr c]
      exact hQ
  · have e : qJn (-22) l r = if l < r then 1 else 0 := rfl
    rw [e] at hQ
    by_cases c : l < r
    · have c' : ¬ r ≤ l := by omega
      rw [if_pos c] at hQ
      simp only [en_QU_joined, e_QU_joined_0, k_QU_joined_0, e_QU_joined_1, k_QU_joined_1, e_QU_joined_2, k_QU_joined_2, e_QU_joined_3, k_QU_joined_3, e_QU_joined_4, k_QU_joined_4, e_QU_joined_5, k_QU_joined_5, e_QU_joined_6, k_QU_joined_6, e_QU_joined_7, k_QU_joined_7, e_QU_joined_8, k_QU_joined_8, e_QU_joined_9, k_QU_joined_9, e_QU_joined_10, k_QU_joined_10, e_QU_joined_11, k_QU_joined_11, e_QU_joined_12, k_QU_joined_12, e_QU_joined_13, k_QU_joined_13, e_QU_joined_14, k_QU_joined_14, e_QU_joined_15, k_QU_joined_15, e_QU_joined_16, k_QU_joined_16, e_QU_joined_17, k_QU_joined_17, e_QU_joined_18, k_QU_joined_18, e_QU_joined_19, k_QU_joined_19, rr, sh, Nat.reduceLT, Nat.reduceMul, Int.reduceToNat, Int.reduceGT, Int.reduceGE, Int.reduceNe, true_and, and_true, true_or, or_true, false_or, or_false, and_self, or_self, if_true, if_false, reduceIte, not_true_eq_false, not_false_eq_true, Int.reduceEq, Int.reduceNe, Int.reduceLT, Int.reduceLE, Int.reduceAdd, Int.reduceSub, Int.reduceMul, Int.reduceNeg, Nat.reduceAdd, Nat.reduceLeDiff, Nat.reduceEqDiff, ne_eq, List.length_cons, List.length_nil, Nat.reduceSub, c3_ge, c']
      exact hQ
    · have c' : r ≤ l := by omega
      rw [if_neg c] at hQ
      simp only [en_QU_joined, e_QU_joined_0, k_QU_joined_0, e_QU_joined_1, k_QU_joined_1, e_QU_joined_2, k_QU_joined_2, e_QU_joined_3, k_QU_joined_3, e_QU_joined_4, k_QU_joined_4, e_QU_joined_5, k_QU_joined_5, e_QU_joined_6, k_QU_joined_6, e_QU_joined_7, k_QU_joined_7, e_QU_joined_8, k_QU_joined_8, e_QU_joined_9, k_QU_joined_9, e_QU_joined_10, k_QU_joined_10, e_QU_joined_11, k_QU_joined_11, e_QU_joined_12, k_QU_joined_12, e_QU_joined_13, k_QU_joined_13, e_QU_joined_14, k_QU_joined_14, e_QU_joined_15, k_QU_joined_15, e_QU_joined_16, k_QU_joined_16, e_QU_joined_17, k_QU_joined_17, e_QU_joined_18, k_QU_joined_18, e_QU_joined_19, k_QU_joined_19, rr, sh, Nat.reduceLT, Nat.reduceMul, Int.reduceToNat, Int.reduceGT, Int.reduceGE, Int.reduceNe, true_and, and_true, true_or, or_true, false_or, or_false, and_self, or_self, if_true, if_false, reduceIte, not_true_eq_false, not_false_eq_true, Int.reduceEq, Int.reduceNe, Int.reduceLT, Int.reduceLE, Int.reduceAdd, Int.reduceSub, Int.reduceMul, Int.reduceNeg, Nat.reduceAdd, Nat.reduceLeDiff, Nat.reduceEqDiff, ne_eq, List.length_cons, List.length_nil, Nat.reduceSub, c3_ge, c']
      exact hQ
  · have e : qJn (-23) l r = if r < l then 1 else 0 := rfl
    rw [e] at hQ
    by_cases c : r < l
    · have c' : ¬ l ≤ r := by omega
      rw [if_pos c] at hQ
      simp only [en_QU_joined, e_QU_joined_0, k_QU_joined_0, e_QU_joined_1, k_QU_joined_1, e_QU_joined_2, k_QU_joined_2, e_QU_joined_3, k_QU_joined_3, e_QU_joined_4, k_QU_joined_4, e_QU_joined_5, k_QU_joined_5, e_QU_joined_6, k_QU_joined_6, e_QU_joined_7, k_QU_joined_7, e_QU_joined_8, k_QU_joined_8, e_QU_joined_9, k_QU_joined_9, e_QU_joined_10, k_QU_joined_10, e_QU_joined_11, k_QU_joined_11, e_QU_joined_12, k_QU_joined_12, e_QU_joined_13, k_QU_joined_13, e_QU_joined_14, k_QU_joined_14, e_QU_joined_15, k_QU_joined_15, e_QU_joined_16, k_QU_joined_16, e_QU_joined_17, k_QU_joined_17, e_QU_joined_18, k_QU_joined_18, e_QU_joined_19, k_QU_joined_19, rr, sh, Nat.reduceLT, Nat.reduceMul, Int.reduceToNat, Int.reduceGT, Int.reduceGE, Int.reduceNe, true_and, and_true, true_or, or_true, false_or, or_false, and_self, or_self, if_true, if_false, reduceIte, not_true_eq_false, not_false_eq_true, Int.reduceEq, Int.reduceNe, Int.reduceLT, Int.reduceLE, Int.reduceAdd, Int.reduceSub, Int.reduceMul, Int.reduceNeg, Nat.reduceAdd, Nat.reduceLeDiff, Nat.reduceEqDiff, ne_eq, List.length_cons, List.length_nil, Nat.reduceSub, c3_le, c']
      exact hQ
    · have c' : l ≤ r := by omega
      rw [if_neg c] at hQ
      simp only [en_QU_joined, e_QU_joined_0, k_QU_joined_0, e_QU_joined_1, k_QU_joined_1, e_QU_joined_2, k_QU_joined_2, e_QU_joined_3, k_QU_joined_3, e_QU_joined_4, k_QU_joined_4, e_QU_joined_5, k_QU_joined_5, e_QU_joined_6, k_QU_joined_6, e_QU_joined_7, k_QU_joined_7, e_QU_joined_8, k_QU_joined_8, e_QU_joined_9, k_QU_joined_9, e_QU_joined_10, k_QU_joined_10, e_QU_joined_11, k_QU_joined_11, e_QU_joined_12, k_QU_joined_12, e_QU_joined_13, k_QU_joined_13, e_QU_joined_14, k_QU_joined_14, e_QU_joined_15, k_QU_joined_15, e_QU_joined_16, k_QU_joined_16, e_QU_joined_17, k_QU_joined_17, e_QU_joined_18, k_QU_joined_18, e_QU_joined_19, k_QU_joined_19, rr, sh, Nat.reduceLT, Nat.reduceMul, Int.reduceToNat, Int.reduceGT, Int.reduceGE, Int.reduceNe, true_and, and_true, true_or, or_true, false_or, or_false, and_self, or_self, if_true, if_false, reduceIte, not_true_eq_false, not_false_eq_true, Int.reduceEq, Int.reduceNe, Int.reduceLT, Int.reduceLE, Int.reduceAdd, Int.reduceSub, Int.reduceMul, Int.reduceNeg, Nat.reduceAdd, Nat.reduceLeDiff, Nat.reduceEqDiff, ne_eq, List.length_cons, List.length_nil, Nat.reduceSub, c3_le, c']
      exact hQ
  · have e : qJn (-24) l r = if l = r then 1 else 0 := rfl
    rw [e] at hQ
    by_cases c : l = r
    · rw [if_pos c] at hQ
      simp only [en_QU_joined, e_QU_joined_0, k_QU_joined_0, e_QU_joined_1, k_QU_joined_1, e_QU_joined_2, k_QU_joined_2, e_QU_joined_3, k_QU_joined_3, e_QU_joined_4, k_QU_joined_4, e_QU_joined_5, k_QU_joined_5, e_QU_joined_6, k_QU_joined_6, e_QU_joined_7, k_QU_joined_7, e_QU_joined_8, k_QU_joined_8, e_QU_joined_9, k_QU_joined_9, e_QU_joined_10, k_QU_joined_10, e_QU_joined_11, k_QU_joined_11, e_QU_joined_12, k_QU_joined_12, e_QU_joined_13, k_QU_joined_13, e_QU_joined_14, k_QU_joined_14, e_QU_joined_15, k_QU_joined_15, e_QU_joined_16, k_QU_joined_16, e_QU_joined_17, k_QU_joined_17, e_QU_joined_18, k_QU_joined_18, e_QU_joined_19, k_QU_joined_19, rr, sh, Nat.reduceLT, Nat.reduceMul, Int.reduceToNat, Int.reduceGT, Int.reduceGE, Int.reduceNe, true_and, and_true, true_or, or_true, false_or, or_false, and_self, or_self, if_true, if_false, reduceIte, not_true_eq_false, not_false_eq_true, Int.reduceEq, Int.reduceNe, Int.reduceLT, Int.reduceLE, Int.reduceAdd, Int.reduceSub, Int.reduceMul, Int.reduceNeg, Nat.reduceAdd, Nat.reduceLeDiff, Nat.reduceEqDiff, ne_eq, List.length_cons, List.length_nil, Nat.reduceSub, c3_eq, c]
      exact hQ
    · rw [if_neg c] at hQ
      simp only [en_QU_joined, e_QU_joined_0, k_QU_joined_0, e_QU_joined_1, k_QU_joined_1, e_QU_joined_2, k_QU_joined_2, e_QU_joined_3, k_QU_joined_3, e_QU_joined_4, k_QU_joined_4, e_QU_joined_5, k_QU_joined_5, e_QU_joined_6, k_QU_joined_6, e_QU_joined_7, k_QU_joined_7, e_QU_joined_8, k_QU_joined_8, e_QU_joined_9, k_QU_joined_9, e_QU_joined_10, k_QU_joined_10, e_QU_joined_11, k_QU_joined_11, e_QU_joined_12, k_QU_joined_12, e_QU_joined_13, k_QU_joined_13, e_QU_joined_14, k_QU_joined_14, e_QU_joined_15, k_QU_joined_15, e_QU_joined_16, k_QU_joined_16, e_QU_joined_17, k_QU_joined_17, e_QU_joined_18, k_QU_joined_18, e_QU_joined_19, k_QU_joined_19, rr, sh, Nat.reduceLT, Nat.reduceMul, Int.reduceToNat, Int.reduceGT, Int.reduceGE, Int.reduceNe, true_and, and_true, true_or, or_true, false_or, or_false, and_self, or_self, if_true, if_false, reduceIte, not_true_eq_false, not_false_eq_true, Int.reduceEq, Int.reduceNe, Int.reduceLT, Int.reduceLE, Int.reduceAdd, Int.reduceSub, Int.reduceMul, Int.reduceNeg, Nat.reduceAdd, Nat.reduceLeDiff, Nat.reduceEqDiff, ne_eq, List.length_cons, List.length_nil, Nat.reduceSub, c3_eq, c]
      exact hQ
theorem fx_psh {v : Int} {n : Nat} {m : Int} : Fx sST H (hs (hs H 40 n v) 38 4 m) := (Fx.rf.hs (c := 40) rfl).hs (c := 38) (j := 4) rfl
theorem fx_pop1 {m : Int} : Fx sST H (hs H 38 4 m) := Fx.rf.hs (c := 38) (j := 4) rfl
set_option maxRecDepth 20000 in
/-- a code of the class is applied -/
theorem c_apply (hI : Inq V) (hH : Vw V H) (hK : KTn V H i) (h0 : 0 ≤ i) (h9 : i ≤ 9999) {e : Int} (hs' : QSC H s) (he : okE e s) (hneg : ¬ 0 ≤ e) (hl : (qst V i e s).length ≤ 60) (hb : BdS s)
    (hQ : ∀ H', Fx sST H H' → QSC H' (qst V i e s) → Q vu H') : CC (d + 5) QU_apply [va 38, va 4, vi (-1 - e), vi i] H Q := by
  have p3 : H 38 3 = 40 := (hH 38 3 rfl).trans (hI.ptr (38, 3, 40) (by decide +kernel))
  have p6 : H 38 6 = 41 := (hH 38 6 rfl).trans (hI.ptr (38, 6, 41) (by decide +kernel))
  obtain ⟨e1, e2, e3, e4, e5, e6, e7, e8, ea, -⟩ := he
  have p3' : ∀ v : Int, hs H 38 4 v 38 3 = 40 := fun v => (hs2 (by decide)).trans p3
  have p6' : ∀ v : Int, hs H 38 4 v 38 6 = 41 := fun v => (hs2 (by decide)).trans p6
  have leaf : ∀ v : Int, qst V i e s = v :: s → s.length < 64 ∧ Q vu (hs (hs H 40 (s.length : Nat) v) 38 4 ((s.length + 1 : Nat) : Int)) := fun v z => by
    rw [z, List.length_cons] at hl
    exact ⟨by omega, hQ _ fx_psh (by rw [z]; exact hs'.push)⟩
  by_cases c10 : e = -10
  · subst c10
    obtain ⟨l1, q1⟩ := leaf 1 rfl
    have hp := fun {Q} => q_pushC (d := d + 4) (Q := Q) (x := 1) p3 hs' l1
    simp only [en_QU_apply, e_QU_apply_0, k_QU_apply_0, e_QU_apply_1, k_QU_apply_1, e_QU_apply_2, k_QU_apply_2, e_QU_apply_3, k_QU_apply_3, e_QU_apply_4, k_QU_apply_4, e_QU_apply_5, k_QU_apply_5, e_QU_apply_6, k_QU_apply_6, e_QU_apply_7, k_QU_apply_7, e_QU_apply_8, k_QU_apply_8, e_QU_apply_9, k_QU_apply_9, e_QU_apply_10, k_QU_apply_10, e_QU_apply_11, k_QU_apply_11, rr, sh, Nat.reduceLT, Nat.reduceMul, Int.reduceToNat, Int.reduceGT, Int.reduceGE, Int.reduceNe, true_and, and_true, true_or, or_true, false_or, or_false, and_self, or_self, if_true, if_false, reduceIte, not_true_eq_false, not_false_eq_true, Int.reduceEq, Int.reduceNe, Int.reduceLT, Int.reduceLE, Int.reduceAdd, Int.reduceSub, Int.reduceMul, Int.reduceNeg, Nat.reduceAdd, Nat.reduceLeDiff, Nat.reduceEqDiff, ne_eq, List.length_cons, List.length_nil, Nat.reduceSub, hp]
    exact q1
  by_cases c11 : e = -11
  · subst c11
    obtain ⟨l1, q1⟩ := leaf i rfl
    have hp := fun {Q} => q_pushC (d := d + 4) (Q := Q) (x := i) p3 hs' l1
    simp only [en_QU_apply, e_QU_apply_0, k_QU_apply_0, e_QU_apply_1, k_QU_apply_1, e_QU_apply_2, k_QU_apply_2, e_QU_apply_3, k_QU_apply_3, e_QU_apply_4, k_QU_apply_4, e_QU_apply_5, k_QU_apply_5, e_QU_apply_6, k_QU_apply_6, e_QU_apply_7, k_QU_apply_7, e_QU_apply_8, k_QU_apply_8, e_QU_apply_9, k_QU_apply_9, e_QU_apply_10, k_QU_apply_10, e_QU_apply_11, k_QU_apply_11, rr, sh, Nat.reduceLT, Nat.reduceMul, Int.reduceToNat, Int.reduceGT, Int.reduceGE, Int.reduceNe, true_and, and_true, true_or, or_true, false_or, or_false, and_self, or_self, if_true, if_false, reduceIte, not_true_eq_false, not_false_eq_true, Int.reduceEq, Int.reduceNe, Int.reduceLT, Int.reduceLE, Int.reduceAdd, Int.reduceSub, Int.reduceMul, Int.reduceNeg, Nat.reduceAdd, Nat.reduceLeDiff, Nat.reduceEqDiff, ne_eq, List.length_cons, List.length_nil, Nat.reduceSub, hp]
    exact q1
  by_cases c12 : e = -12
  · subst c12
    obtain ⟨l1, q1⟩ := leaf (qOf V i) rfl
    have hp := fun {Q} => q_pushC (d := d + 4) (Q := Q) (x := qOf V i) p3 hs' l1
    have k7 := hK.2.2.1
    simp only [en_QU_apply, e_QU_apply_0, k_QU_apply_0, e_QU_apply_1, k_QU_apply_1, e_QU_apply_2, k_QU_apply_2, e_QU_apply_3, k_QU_apply_3, e_QU_apply_4, k_QU_apply_4, e_QU_apply_5, k_QU_apply_5, e_QU_apply_6, k_QU_apply_6, e_QU_apply_7, k_QU_apply_7, e_QU_apply_8, k_QU_apply_8, e_QU_apply_9, k_QU_apply_9, e_QU_apply_10, k_QU_apply_10, e_QU_apply_11, k_QU_apply_11, rr, sh, Nat.reduceLT, Nat.reduceMul, Int.reduceToNat, Int.reduceGT, Int.reduceGE, Int.reduceNe, true_and, and_true, true_or, or_true, false_or, or_false, and_self, or_self, if_true, if_false, reduceIte, not_true_eq_false, not_false_eq_true, Int.reduceEq, Int.reduceNe, Int.reduceLT, Int.reduceLE, Int.reduceAdd, Int.reduceSub, Int.reduceMul, Int.reduceNeg, Nat.reduceAdd, Nat.reduceLeDiff, Nat.reduceEqDiff, ne_eq, List.length_cons, List.length_nil, Nat.reduceSub, k7, hp]
    exact q1
  by_cases c13 : e = -13
  · subst c13
    obtain ⟨l1, q1⟩ := leaf (qGd V i) rfl
    have hp := fun {Q} => q_pushC (d := d + 4) (Q := Q) (x := qGd V i) p3 hs' l1
    have k8 := hK.2.2.2
    simp only [en_QU_apply, e_QU_apply_0, k_QU_apply_0, e_QU_apply_1, k_QU_apply_1, e_QU_apply_2, k_QU_apply_2, e_QU_apply_3, k_QU_apply_3, e_QU_apply_4, k_QU_apply_4, e_QU_apply_5, k_QU_apply_5, e_QU_apply_6, k_QU_apply_6, e_QU_apply_7, k_QU_apply_7, e_QU_apply_8, k_QU_apply_8, e_QU_apply_9, k_QU_apply_9, e_QU_apply_10, k_QU_apply_10, e_QU_apply_11, k_QU_apply_11, rr, sh, Nat.reduceLT, Nat.reduceMul, Int.reduceToNat, Int.reduceGT, Int.reduceGE, Int.reduceNe, true_and, and_true, true_or, or_true, false_or, or_false, and_self, or_self, if_true, if_false, reduceIte, not_true_eq_false, not_false_eq_true, Int.reduceEq, Int.reduceNe, Int.reduceLT, Int.reduceLE, Int.reduceAdd, Int.reduceSub, Int.reduceMul, Int.reduceNeg, Nat.reduceAdd, Nat.reduceLeDiff, Nat.reduceEqDiff, ne_eq, List.length_cons, List.length_nil, Nat.reduceSub, k8, hp]
    exact q1
  by_cases c1 : e = -9 ∨ e = -14 ∨ e = -15
  · have a1 : qAr e = 1 := by rcases c1 with rfl | rfl | rfl <;> rfl
    rw [a1] at ea
    cases s with
    | nil => exact absurd ea (by decide)
    | cons x s =>
      have eq : qst V i e (x :: s) = qUn V i e x :: s := by unfold qst; rw [a1]; rfl
      rw [eq, List.length_cons] at hl
      have l1 : s.length < 64 := by omega
      have hpop := fun {Q} => q_popC (d := d + 4) (Q := Q) p3 hs' l1
      have h2 := hs'.pop
      have hp := fun {v : Int} {Q} => q_pushC (d := d + 4) (Q := Q) (x := v) (p3' _) h2 l1
      have fin : Q vu (hs (hs (hs H 38 4 (s.length : Nat)) 40 (s.length : Nat) (qUn V i e x)) 38 4 ((s.length + 1 : Nat) : Int)) := hQ _ (fx_pop1.tr fx_psh) (by rw [eq]; exact h2.push)
      rcases c1 with rfl | rfl | rfl
      · have fin : Q vu (hs (hs (hs H 38 4 (s.length : Nat)) 40 (s.length : Nat) (if x = 0 then 1 else 0)) 38 4 ((s.length + 1 : Nat) : Int)) := fin
        by_cases c : x = 0
        · rw [if_pos c] at fin
          simp only [en_QU_apply, e_QU_apply_0, k_QU_apply_0, e_QU_apply_1, k_QU_apply_1, e_QU_apply_2, k_QU_apply_2, e_QU_apply_3, k_QU_apply_3, e_QU_apply_4, k_QU_apply_4, e_QU_apply_5, k_QU_apply_5, e_QU_apply_6, k_QU_apply_6, e_QU_apply_7, k_QU_apply_7, e_QU_apply_8, k_QU_apply_8, e_QU_apply_9, k_QU_apply_9, e_QU_apply_10, k_QU_apply_10, e_QU_apply_11, k_QU_apply_11, rr, sh, Nat.reduceLT, Nat.reduceMul, Int.reduceToNat, Int.reduceGT, Int.reduceGE, Int.reduceNe, true_and, and_true, true_or, or_true, false_or, or_false, and_self, or_self, if_true, if_false, reduceIte, not_true_eq_false, not_false_eq_true, Int.reduceEq, Int.reduceNe, Int.reduceLT, Int.reduceLE, Int.reduceAdd, Int.reduceSub, Int.reduceMul, Int.reduceNeg, Nat.reduceAdd, Nat.reduceLeDiff, Nat.reduceEqDiff, ne_eq, List.length_cons, List.length_nil, Nat.reduceSub, c3_eq, hpop, c, hp]
          exact fin
        · rw [if_neg c] at fin
          simp only [en_QU_apply, e_QU_apply_0, k_QU_apply_0, e_QU_apply_1, k_QU_apply_1, e_QU_apply_2, k_QU_apply_2, e_QU_apply_3, k_QU_apply_3, e_QU_apply_4, k_QU_apply_4, e_QU_apply_5, k_QU_apply_5, e_QU_apply_6, k_QU_apply_6, e_QU_apply_7, k_QU_apply_7, e_QU_apply_8, k_QU_apply_8, e_QU_apply_9, k_QU_apply_9, e_QU_apply_10, k_QU_apply_10, e_QU_apply_11, k_QU_apply_11, rr, sh, Nat.reduceLT, Nat.reduceMul, Int.reduceToNat, Int.reduceGT, Int.reduceGE, Int.reduceNe, true_and, and_true, true_or, or_true, false_or, or_false, and_self, or_self, if_true, if_false, reduceIte, not_true_eq_false, not_false_eq_true, Int.reduceEq, Int.reduceNe, Int.reduceLT, Int.reduceLE, Int.reduceAdd, Int.reduceSub, Int.reduceMul, Int.reduceNeg, Nat.reduceAdd, Nat.reduceLeDiff, Nat.reduceEqDiff, ne_eq, List.length_cons, List.length_nil, Nat.reduceSub, c3_eq, hpop, c, hp]
          exact fin
      · have k : ∀ q : Nat, q < 4 → hs H 38 4 (s.length : Nat) 41 q = qcl (w64 (sww V q (sdV V) i)) := fun q hq => (hs_ne' (by decide)).trans (hK.2.1 q hq)
        have hsw := fun {Q} => q_swingOf (d := d + 4) (Q := Q) (V := V) (i := i) (x := x) (p6' _) k
        simp only [en_QU_apply, e_QU_apply_0, k_QU_apply_0, e_QU_apply_1, k_QU_apply_1, e_QU_apply_2, k_QU_apply_2, e_QU_apply_3, k_QU_apply_3, e_QU_apply_4, k_QU_apply_4, e_QU_apply_5, k_QU_apply_5, e_QU_apply_6, k_QU_apply_6, e_QU_apply_7, k_QU_apply_7, e_QU_apply_8, k_QU_apply_8, e_QU_apply_9, k_QU_apply_9, e_QU_apply_10, k_QU_apply_10, e_QU_apply_11, k_QU_apply_11, rr, sh, Nat.reduceLT, Nat.reduceMul, Int.reduceToNat, Int.reduceGT, Int.reduceGE, Int.reduceNe, true_and, and_true, true_or, or_true, false_or, or_false, and_self, or_self, if_true, if_false, reduceIte, not_true_eq_false, not_false_eq_true, Int.reduceEq, Int.reduceNe, Int.reduceLT, Int.reduceLE, Int.reduceAdd, Int.reduceSub, Int.reduceMul, Int.reduceNeg, Nat.reduceAdd, Nat.reduceLeDiff, Nat.reduceEqDiff, ne_eq, List.length_cons, List.length_nil, Nat.reduceSub, hpop, hsw, hp]
        exact fin
      · have hv : Vw V (hs H 38 4 (s.length : Nat)) := hH.hs rfl
        have hfo := fun {Q} => q_forceOf (d := d + 2) (Q := Q) (x := x) hI hv h0 h9
        simp only [en_QU_apply, e_QU_apply_0, k_QU_apply_0, e_QU_apply_1, k_QU_apply_1, e_QU_apply_2, k_QU_apply_2, e_QU_apply_3, k_QU_apply_3, e_QU_apply_4, k_QU_apply_4, e_QU_apply_5, k_QU_apply_5, e_QU_apply_6, k_QU_apply_6, e_QU_apply_7, k_QU_apply_7, e_QU_apply_8, k_QU_apply_8, e_QU_apply_9, k_QU_apply_9, e_QU_apply_10, k_QU_apply_10, e_QU_apply_11, k_QU_apply_11, rr, sh, Nat.reduceLT, Nat.reduceMul, Int.reduceToNat, Int.reduceGT, Int.reduceGE, Int.reduceNe, true_and, and_true, true_or, or_true, false_or, or_false, and_self, or_self, if_true, if_false, reduceIte, not_true_eq_false, not_false_eq_true, Int.reduceEq, Int.reduceNe, Int.reduceLT, Int.reduceLE, Int.reduceAdd, Int.reduceSub, Int.reduceMul, Int.reduceNeg, Nat.reduceAdd, Nat.reduceLeDiff, Nat.reduceEqDiff, ne_eq, List.length_cons, List.length_nil, Nat.reduceSub, hpop, hfo, hp]
        exact fin
  · have c2 : is2 e := by unfold is2; omega
    have a2 : qAr e = 2 := by rcases c2 with rfl | rfl | rfl | rfl | rfl | rfl | rfl | rfl | rfl | rfl | rfl <;> rfl
    rw [a2] at ea
    cases s with
    | nil => exact absurd ea (by decide)
    | cons y s =>
      cases s with
      | nil => exact absurd (show (2 : Nat) ≤ 1 from ea) (by decide)
      | cons x s =>
        have eq : qst V i e (y :: x :: s) = qJn e x y :: s := by unfold qst; rw [a2]; rfl
        rw [eq, List.length_cons] at hl
        have l1 : s.length < 64 := by omega
        have l2 : (x :: s).length < 64 := by rw [List.length_cons]; omega
        have by_ : BdQ y := hb y (List.mem_cons_self ..)
        have bx : BdQ x := hb x (List.mem_cons_of_mem _ (List.mem_cons_self ..))
        have h2 := hs'.pop
        have h3 := h2.pop
        have pop1 : ∀ {Q : AV → Hp → Prop}, CC (d + 3) QU_pop [va 38] H Q = Q (vl y) (hs H 38 4 ((s.length + 1 : Nat) : Int)) := fun {Q} => q_popC (d := d + 3) (Q := Q) p3 hs' l2
        have h2 : QSC (hs H 38 4 ((s.length + 1 : Nat) : Int)) (x :: s) := h2
        have h3 : QSC (hs (hs H 38 4 ((s.length + 1 : Nat) : Int)) 38 4 (s.length : Nat)) s := h3
        have pop2 := fun {Q} => q_popC (d := d + 3) (Q := Q) (p3' _) h2 l1
        have q3 : hs (hs H 38 4 ((s.length + 1 : Nat) : Int)) 38 4 (s.length : Nat) 38 3 = 40 := (hs2 (by decide)).trans (p3' _)
        have hp := fun {v : Int} {Q} => q_pushC (d := d + 3) (Q := Q) (x := v) q3 h3 l1
        have hj := fun {H : Hp} {Q} => q_joined (d := d + 1) (H := H) (Q := Q) c2 bx by_
        have fin := hQ _ ((fx_pop1.tr fx_pop1).tr fx_psh) (by rw [eq]; exact h3.push)
        have a2c : CC (d + 4) QU_applyToTwo [va 38, vi (-1 - e)] H (fun _ H1 => Q vu H1) := by
          simp only [en_QU_applyToTwo, e_QU_applyToTwo_0, k_QU_applyToTwo_0, rr, sh, Nat.reduceLT, Nat.reduceMul, Int.reduceToNat, Int.reduceGT, Int.reduceGE, Int.reduceNe, true_and, and_true, true_or, or_true, false_or, or_false, and_self, or_self, if_true, if_false, reduceIte, not_true_eq_false, not_false_eq_true, Int.reduceEq, Int.reduceNe, Int.reduceLT, Int.reduceLE, Int.reduceAdd, Int.reduceSub, Int.reduceMul, Int.reduceNeg, Nat.reduceAdd, Nat.reduceLeDiff, Nat.reduceEqDiff, ne_eq, List.length_cons, List.length_nil, Nat.reduceSub, pop1, pop2, hj, hp]
          exact fin
        rcases c2 with rfl | rfl | rfl | rfl | rfl | rfl | rfl | rfl | rfl | rfl | rfl
        all_goals
          simp only [en_QU_apply, e_QU_apply_0, k_QU_apply_0, e_QU_apply_1, k_QU_apply_1, e_QU_apply_2, k_QU_apply_2, e_QU_apply_3, k_QU_apply_3, e_QU_apply_4, k_QU_apply_4, e_QU_apply_5, k_QU_apply_5, e_QU_apply_6, k_QU_apply_6, e_QU_apply_7, k_QU_apply_7, e_QU_apply_8, k_QU_apply_8, e_QU_apply_9, k_QU_apply_9, e_QU_apply_10, k_QU_apply_10, e_QU_apply_11, k_QU_apply_11, rr, sh, Nat.reduceLT, Nat.reduceMul, Int.reduceToNat, Int.reduceGT, Int.reduceGE, Int.reduceNe, true_and, and_true, true_or, or_true, false_or, or_false, and_self, or_self, if_true, if_false, reduceIte, not_true_eq_false, not_false_eq_true, Int.reduceEq, Int.reduceNe, Int.reduceLT, Int.reduceLE, Int.reduceAdd, Int.reduceSub, Int.reduceMul, Int.reduceNeg, Nat.reduceAdd, Nat.reduceLeDiff, Nat.reduceEqDiff, ne_eq, List.length_cons, List.length_nil, Nat.reduceSub] at a2c ⊢
          exact a2c
end QV2
