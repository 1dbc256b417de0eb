/-! THE READING: a sign taken -/
section LT
variable {d : Nat} {V H : Hp} {Q : AV → Hp → Prop}
set_option maxRecDepth 20000 in
theorem q_takeSignC (hT : TapeR V) (h : TpV V H) {a : Nat} (ha : H 2 2 = a) (hn : a ≤ tpN V) {c : Int} : CC (d + 2) TP_takeSign [va 2, vi c] H Q = Q (vi (if bz V (skE V a) = c then 1 else 0)) (if bz V (skE V a) = c then hs (hs H 2 2 (skE V a)) 2 2 ((skE V a + 1 : Nat) : Int) else hs (hs (hs H 2 2 (skE V a)) 2 6 1) 2 7 (skE V a)) := by
  refine CC_dt fun Q hQ => ?_
  have n16 := tpN_le hT
  have s := skE_rng hn
  have b2 : hs H 2 2 (skE V a) 2 2 = skE V a := hs_same
  have kw := w32_s (n := skE V a) (by omega)
  by_cases q : bz V (skE V a) = c
  · rw [if_pos q, if_pos q] at hQ
    simp only [en_TP_takeSign, e_TP_takeSign_0, k_TP_takeSign_0, e_TP_takeSign_1, k_TP_takeSign_1, rr, sh, Nat.reduceLT, Nat.reduceMul, Int.reduceToNat, Int.reduceGT, Int.reduceGE, Int.reduceNe, true_and, and_true, true_or, or_true, false_or, or_false, and_self, or_self, if_true, if_false, reduceIte, not_true_eq_false, not_false_eq_true, Int.reduceEq, Int.reduceNe, Int.reduceLT, Int.reduceLE, Int.reduceAdd, Int.reduceSub, Int.reduceMul, Int.reduceNeg, Nat.reduceAdd, Nat.reduceLeDiff, Nat.reduceEqDiff, ne_eq, List.length_cons, List.length_nil, Nat.reduceSub, q_next hT h ha hn, q, b2, kw, eq_self]
    exact hQ
  · rw [if_neg q, if_neg q] at hQ
    have fh : ∀ {Q : AV → Hp → Prop}, CC (d + 1) TP_failHere [va 2] (hs H 2 2 (skE V a)) Q = Q (vi 0) (hs (hs (hs H 2 2 (skE V a)) 2 6 1) 2 7 (skE V a)) := fun {Q} => q_failHere (d := d) b2
    simp only [en_TP_takeSign, e_TP_takeSign_0, k_TP_takeSign_0, e_TP_takeSign_1, k_TP_takeSign_1, rr, sh, Nat.reduceLT, Nat.reduceMul, Int.reduceToNat, Int.reduceGT, Int.reduceGE, Int.reduceNe, true_and, and_true, true_or, or_true, false_or, or_false, and_self, or_self, if_true, if_false, reduceIte, not_true_eq_false, not_false_eq_true, Int.reduceEq, Int.reduceNe, Int.reduceLT, Int.reduceLE, Int.reduceAdd, Int.reduceSub, Int.reduceMul, Int.reduceNeg, Nat.reduceAdd, Nat.reduceLeDiff, Nat.reduceEqDiff, ne_eq, List.length_cons, List.length_nil, Nat.reduceSub, q_next hT h ha hn, q, fh]
    exact hQ
theorem q_takesSign' {c : Int} (hb : H 71 5 ≠ 0) : CC d MO_takesSign [va 71, vi c] H Q = Q (vi 0) H := by
  refine CC_dt fun Q hQ => ?_
  simp only [en_MO_takesSign, e_MO_takesSign_0, k_MO_takesSign_0, e_MO_takesSign_1, k_MO_takesSign_1, rr, sh, Nat.reduceLT, Nat.reduceMul, Int.reduceToNat, Int.reduceGT, Int.reduceGE, Int.reduceNe, true_and, and_true, true_or, or_true, false_or, or_false, and_self, or_self, if_true, if_false, reduceIte, not_true_eq_false, not_false_eq_true, Int.reduceEq, Int.reduceNe, Int.reduceLT, Int.reduceLE, Int.reduceAdd, Int.reduceSub, Int.reduceMul, Int.reduceNeg, Nat.reduceAdd, Nat.reduceLeDiff, Nat.reduceEqDiff, ne_eq, List.length_cons, List.length_nil, Nat.reduceSub, hb]
  exact hQ
theorem q_asksSign' {c : Int} (hb : H 71 5 ≠ 0) : CC d MO_asksSign [va 71, vi c] H Q = Q vu H := by
  refine CC_dt fun Q hQ => ?_
  simp only [en_MO_asksSign, e_MO_asksSign_0, k_MO_asksSign_0, e_MO_asksSign_1, k_MO_asksSign_1, rr, sh, Nat.reduceLT, Nat.reduceMul, Int.reduceToNat, Int.reduceGT, Int.reduceGE, Int.reduceNe, true_and, and_true, true_or, or_true, false_or, or_false, and_self, or_self, if_true, if_false, reduceIte, not_true_eq_false, not_false_eq_true, Int.reduceEq, Int.reduceNe, Int.reduceLT, Int.reduceLE, Int.reduceAdd, Int.reduceSub, Int.reduceMul, Int.reduceNeg, Nat.reduceAdd, Nat.reduceLeDiff, Nat.reduceEqDiff, ne_eq, List.length_cons, List.length_nil, Nat.reduceSub, hb]
  exact hQ
set_option maxRecDepth 20000 in
theorem q_takesSign (hT : TapeR V) (h : TmV V H) {a : Nat} (ha : H 71 2 = a) (hn : a ≤ tpN V) (hb : H 71 5 = 0) {c : Int} : CC (d + 1) MO_takesSign [va 71, vi c] H Q = Q (vi (if bz V (skE V a) = c then 1 else 0)) (if bz V (skE V a) = c then hs (hs H 71 2 (skE V a)) 71 2 ((skE V a + 1 : Nat) : Int) else hs H 71 2 (skE V a)) := by
  refine CC_dt fun Q hQ => ?_
  have n16 := tpN_le hT
  have s := skE_rng hn
  have b2 : hs H 71 2 (skE V a) 71 2 = skE V a := hs_same
  have kw := w32_s (n := skE V a) (by omega)
  by_cases q : bz V (skE V a) = c
  · rw [if_pos q, if_pos q] at hQ
    simp only [en_MO_takesSign, e_MO_takesSign_0, k_MO_takesSign_0, e_MO_takesSign_1, k_MO_takesSign_1, e_MO_takesSign_2, k_MO_takesSign_2, rr, sh, Nat.reduceLT, Nat.reduceMul, Int.reduceToNat, Int.reduceGT, Int.reduceGE, Int.reduceNe, true_and, and_true, true_or, or_true, false_or, or_false, and_self, or_self, if_true, if_false, reduceIte, not_true_eq_false, not_false_eq_true, Int.reduceEq, Int.reduceNe, Int.reduceLT, Int.reduceLE, Int.reduceAdd, Int.reduceSub, Int.reduceMul, Int.reduceNeg, Nat.reduceAdd, Nat.reduceLeDiff, Nat.reduceEqDiff, ne_eq, List.length_cons, List.length_nil, Nat.reduceSub, hb, q_look hT h ha hn, q, b2, kw, eq_self]
    exact hQ
  · rw [if_neg q, if_neg q] at hQ
    simp only [en_MO_takesSign, e_MO_takesSign_0, k_MO_takesSign_0, e_MO_takesSign_1, k_MO_takesSign_1, e_MO_takesSign_2, k_MO_takesSign_2, rr, sh, Nat.reduceLT, Nat.reduceMul, Int.reduceToNat, Int.reduceGT, Int.reduceGE, Int.reduceNe, true_and, and_true, true_or, or_true, false_or, or_false, and_self, or_self, if_true, if_false, reduceIte, not_true_eq_false, not_false_eq_true, Int.reduceEq, Int.reduceNe, Int.reduceLT, Int.reduceLE, Int.reduceAdd, Int.reduceSub, Int.reduceMul, Int.reduceNeg, Nat.reduceAdd, Nat.reduceLeDiff, Nat.reduceEqDiff, ne_eq, List.length_cons, List.length_nil, Nat.reduceSub, hb, q_look hT h ha hn, q]
    exact hQ
set_option maxRecDepth 20000 in
theorem q_asksSign (hT : TapeR V) (h : TmV V H) {a : Nat} (ha : H 71 2 = a) (hn : a ≤ tpN V) (hb : H 71 5 = 0) {c : Int} : CC (d + 2) MO_asksSign [va 71, vi c] H Q = Q vu (if bz V (skE V a) = c then hs (hs H 71 2 (skE V a)) 71 2 ((skE V a + 1 : Nat) : Int) else hs (hs (hs H 71 2 (skE V a)) 71 5 1) 71 6 (skE V a)) := by
  refine CC_dt fun Q hQ => ?_
  have b2 : hs H 71 2 (skE V a) 71 2 = skE V a := hs_same
  have hb2 : hs H 71 2 (skE V a) 71 5 = 0 := (hs2 (by decide)).trans hb
  by_cases q : bz V (skE V a) = c
  · rw [if_pos q] at hQ
    simp only [en_MO_asksSign, e_MO_asksSign_0, k_MO_asksSign_0, e_MO_asksSign_1, k_MO_asksSign_1, rr, sh, Nat.reduceLT, Nat.reduceMul, Int.reduceToNat, Int.reduceGT, Int.reduceGE, Int.reduceNe, true_and, and_true, true_or, or_true, false_or, or_false, and_self, or_self, if_true, if_false, reduceIte, not_true_eq_false, not_false_eq_true, Int.reduceEq, Int.reduceNe, Int.reduceLT, Int.reduceLE, Int.reduceAdd, Int.reduceSub, Int.reduceMul, Int.reduceNeg, Nat.reduceAdd, Nat.reduceLeDiff, Nat.reduceEqDiff, ne_eq, List.length_cons, List.length_nil, Nat.reduceSub, hb, q_takesSign hT h ha hn hb, q, if_pos]
    exact hQ
  · rw [if_neg q] at hQ
    simp only [en_MO_asksSign, e_MO_asksSign_0, k_MO_asksSign_0, e_MO_asksSign_1, k_MO_asksSign_1, rr, sh, Nat.reduceLT, Nat.reduceMul, Int.reduceToNat, Int.reduceGT, Int.reduceGE, Int.reduceNe, true_and, and_true, true_or, or_true, false_or, or_false, and_self, or_self, if_true, if_false, reduceIte, not_true_eq_false, not_false_eq_true, Int.reduceEq, Int.reduceNe, Int.reduceLT, Int.reduceLE, Int.reduceAdd, Int.reduceSub, Int.reduceMul, Int.reduceNeg, Nat.reduceAdd, Nat.reduceLeDiff, Nat.reduceEqDiff, ne_eq, List.length_cons, List.length_nil, Nat.reduceSub, hb, q_takesSign hT h ha hn hb, q, b2, q_failM hb2]
    exact hQ
end LT
