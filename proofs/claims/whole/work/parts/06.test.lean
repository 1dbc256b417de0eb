set_option maxHeartbeats 4000000 in
theorem zz_isSeat {d : Nat} {p s : Int} {H : Hp} {Q : AV → Hp → Prop} (hp : shc p = 5) : CC d PL_isSeat [va p, vi s] H Q = Q (vi (if 0 ≤ s ∧ s < H p 0 then 1 else 0)) H := by
  simp only [en_PL_isSeat, e_PL_isSeat_0, k_PL_isSeat_0, e_PL_isSeat_1, k_PL_isSeat_1, e_PL_isSeat_2, k_PL_isSeat_2, rr, sh, true_and, and_true, true_or, or_true, false_or, or_false, and_self, or_self, if_true, if_false, reduceIte, not_true_eq_false, not_false_eq_true, Int.reduceEq, Int.reduceNe, Int.reduceLT, Int.reduceLE, Int.reduceAdd, Int.reduceSub, Int.reduceMul, Int.reduceNeg, Nat.reduceAdd, Nat.reduceLeDiff, Nat.reduceEqDiff, ne_eq, List.length_cons, List.length_nil, Nat.reduceSub, hp]
  split <;> (try split) <;> (try split) <;> first | rfl | omega
set_option maxHeartbeats 4000000 in
theorem zz_sw {d : Nat} {p s t : Int} {H : Hp} {Q : AV → Hp → Prop} (hp : shc p = 5) : CC (d + 3) CW_swingAt [va 4, vi s, vi t] H Q := by
  simp only [en_CW_swingAt, e_CW_swingAt_0, k_CW_swingAt_0, rr, sh, true_and, and_true, true_or, or_true, false_or, or_false, and_self, or_self, if_true, if_false, reduceIte, not_true_eq_false, not_false_eq_true, Int.reduceEq, Int.reduceNe, Int.reduceLT, Int.reduceLE, Int.reduceAdd, Int.reduceSub, Int.reduceMul, Int.reduceNeg, Nat.reduceAdd, Nat.reduceLeDiff, Nat.reduceEqDiff, ne_eq, List.length_cons, List.length_nil, Nat.reduceSub, hp]
  trace_state
  simp only [e_CW_swingAt_1, k_CW_swingAt_1, e_CW_swingAt_2, k_CW_swingAt_2, rr, sh, true_and, and_true, true_or, or_true, false_or, or_false, and_self, or_self, if_true, if_false, reduceIte, not_true_eq_false, not_false_eq_true, Int.reduceEq, Int.reduceNe, Int.reduceLT, Int.reduceLE, Int.reduceAdd, Int.reduceSub, Int.reduceMul, Int.reduceNeg, Nat.reduceAdd, Nat.reduceLeDiff, Nat.reduceEqDiff, ne_eq, List.length_cons, List.length_nil, Nat.reduceSub, hp]
  trace_state
  sorry
