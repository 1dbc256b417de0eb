/-! THE READING: a word taken, a word asked for -/
/-- where the word behind the blanks at a ends -/
def enE (V : Hp) (a : Nat) : Nat := weE V (skE V a)
theorem enE_rng {V : Hp} {a : Nat} (h : a ≤ tpN V) : a ≤ enE V a ∧ enE V a ≤ tpN V ∧ skE V a ≤ enE V a := by
  have h1 := skE_rng h
  have h2 := weE_rng h1.2
  unfold enE
  omega
theorem here_len {V : Hp} {a : Nat} {j : Int} {w : List Int} (h : hereB V a j w = true) : skE V a + w.length = enE V a := by
  unfold hereB wdB at h
  rw [Bool.and_eq_true] at h
  exact of_decide_eq_true (Bool.and_eq_true _ _ ▸ h.2).2
section LV
variable {d : Nat} {V H : Hp} {Q : AV → Hp → Prop}
theorem q_failM {k p : Int} (hb : H 71 5 = 0) : CC d MO_fail [va 71, vi k, vi p] H Q = Q vu (hs (hs H 71 5 k) 71 6 p) := by
  refine CC_dt fun Q hQ => ?_
  simp only [en_MO_fail, e_MO_fail_0, k_MO_fail_0, e_MO_fail_1, k_MO_fail_1, rr, sh, Nat.reduceLT, Nat.reduceMul, Int.reduceToNat, Int.reduceGT, Int.reduceGE, Int.reduceNe, true_and, and_true, true_or, or_true, false_or, or_false, and_self, or_self, if_true, if_false, reduceIte, not_true_eq_false, not_false_eq_true, Int.reduceEq, Int.reduceNe, Int.reduceLT, Int.reduceLE, Int.reduceAdd, Int.reduceSub, Int.reduceMul, Int.reduceNeg, Nat.reduceAdd, Nat.reduceLeDiff, Nat.reduceEqDiff, ne_eq, List.length_cons, List.length_nil, Nat.reduceSub, hb]
  exact hQ
theorem q_failM' {k p : Int} (hb : H 71 5 ≠ 0) : CC d MO_fail [va 71, vi k, vi p] H Q = Q vu H := by
  refine CC_dt fun Q hQ => ?_
  simp only [en_MO_fail, e_MO_fail_0, k_MO_fail_0, e_MO_fail_1, k_MO_fail_1, rr, sh, Nat.reduceLT, Nat.reduceMul, Int.reduceToNat, Int.reduceGT, Int.reduceGE, Int.reduceNe, true_and, and_true, true_or, or_true, false_or, or_false, and_self, or_self, if_true, if_false, reduceIte, not_true_eq_false, not_false_eq_true, Int.reduceEq, Int.reduceNe, Int.reduceLT, Int.reduceLE, Int.reduceAdd, Int.reduceSub, Int.reduceMul, Int.reduceNeg, Nat.reduceAdd, Nat.reduceLeDiff, Nat.reduceEqDiff, ne_eq, List.length_cons, List.length_nil, Nat.reduceSub, hb]
  exact hQ
theorem q_isHere' {c : Int} (hb : H 71 5 ≠ 0) : CC d MO_isHere [va 71, va c] H Q = Q (vi 0) H := by
  refine CC_dt fun Q hQ => ?_
  simp only [en_MO_isHere, e_MO_isHere_0, k_MO_isHere_0, e_MO_isHere_1, k_MO_isHere_1, rr, sh, Nat.reduceLT, Nat.reduceMul, Int.reduceToNat, Int.reduceGT, Int.reduceGE, Int.reduceNe, true_and, and_true, true_or, or_true, false_or, or_false, and_self, or_self, if_true, if_false, reduceIte, not_true_eq_false, not_false_eq_true, Int.reduceEq, Int.reduceNe, Int.reduceLT, Int.reduceLE, Int.reduceAdd, Int.reduceSub, Int.reduceMul, Int.reduceNeg, Nat.reduceAdd, Nat.reduceLeDiff, Nat.reduceEqDiff, ne_eq, List.length_cons, List.length_nil, Nat.reduceSub, hb]
  exact hQ
theorem q_takes' {c : Int} (hb : H 71 5 ≠ 0) : CC (d + 1) MO_takes [va 71, va c] H Q = Q (vi 0) H := by
  refine CC_dt fun Q hQ => ?_
  simp only [en_MO_takes, e_MO_takes_0, k_MO_takes_0, e_MO_takes_1, k_MO_takes_1, rr, sh, Nat.reduceLT, Nat.reduceMul, Int.reduceToNat, Int.reduceGT, Int.reduceGE, Int.reduceNe, true_and, and_true, true_or, or_true, false_or, or_false, and_self, or_self, if_true, if_false, reduceIte, not_true_eq_false, not_false_eq_true, Int.reduceEq, Int.reduceNe, Int.reduceLT, Int.reduceLE, Int.reduceAdd, Int.reduceSub, Int.reduceMul, Int.reduceNeg, Nat.reduceAdd, Nat.reduceLeDiff, Nat.reduceEqDiff, ne_eq, List.length_cons, List.length_nil, Nat.reduceSub, q_isHere' hb]
  exact hQ
theorem q_asks' {c : Int} (hb : H 71 5 ≠ 0) : CC d MO_asks [va 71, va c] H Q = Q vu H := by
  refine CC_dt fun Q hQ => ?_
  simp only [en_MO_asks, e_MO_asks_0, k_MO_asks_0, e_MO_asks_1, k_MO_asks_1, rr, sh, Nat.reduceLT, Nat.reduceMul, Int.reduceToNat, Int.reduceGT, Int.reduceGE, Int.reduceNe, true_and, and_true, true_or, or_true, false_or, or_false, and_self, or_self, if_true, if_false, reduceIte, not_true_eq_false, not_false_eq_true, Int.reduceEq, Int.reduceNe, Int.reduceLT, Int.reduceLE, Int.reduceAdd, Int.reduceSub, Int.reduceMul, Int.reduceNeg, Nat.reduceAdd, Nat.reduceLeDiff, Nat.reduceEqDiff, ne_eq, List.length_cons, List.length_nil, Nat.reduceSub, hb]
  exact hQ
set_option maxRecDepth 20000 in
theorem q_takes (hT : TapeR V) (h : TmV V H) {a : Nat} (ha : H 71 2 = a) (hn : a ≤ tpN V) {j : Int} (hj : H 71 4 = j) (hb : H 71 5 = 0) {c : Int} (hc1 : c ≠ 71) {w : List Int} (hc : ChW H c w) (hw : w.length ≤ 100) : CC (d + 2) MO_takes [va 71, va c] H Q = Q (vi (bI (hereB V a j w))) (if hereB V a j w = true then hs (hs (hs H 71 2 (skE V a)) 71 2 (enE V a)) 71 4 (enE V a) else hs H 71 2 (skE V a)) := by
  refine CC_dt fun Q hQ => ?_
  have n16 := tpN_le hT
  have hr := enE_rng hn
  by_cases q : hereB V a j w = true
  · have hl := here_len q
    have w1 : w32 ((skE V a : Int) + (w.length : Nat)) = (enE V a : Int) := by rw [w32_id (by omega) (by omega)]; omega
    rw [if_pos q, q] at hQ
    simp only [en_MO_takes, e_MO_takes_0, k_MO_takes_0, e_MO_takes_1, k_MO_takes_1, rr, sh, Nat.reduceLT, Nat.reduceMul, Int.reduceToNat, Int.reduceGT, Int.reduceGE, Int.reduceNe, true_and, and_true, true_or, or_true, false_or, or_false, and_self, or_self, if_true, if_false, reduceIte, not_true_eq_false, not_false_eq_true, Int.reduceEq, Int.reduceNe, Int.reduceLT, Int.reduceLE, Int.reduceAdd, Int.reduceSub, Int.reduceMul, Int.reduceNeg, Nat.reduceAdd, Nat.reduceLeDiff, Nat.reduceEqDiff, ne_eq, List.length_cons, List.length_nil, Nat.reduceSub, q_isHere hT h ha hn hj hb hc1 hc hw, q, show bI true = 1 from rfl, hs_same, hc.1, hc.2.1, w1]
    exact hQ
  · have q' : hereB V a j w = false := by simpa using q
    rw [if_neg q, q'] at hQ
    simp only [en_MO_takes, e_MO_takes_0, k_MO_takes_0, e_MO_takes_1, k_MO_takes_1, rr, sh, Nat.reduceLT, Nat.reduceMul, Int.reduceToNat, Int.reduceGT, Int.reduceGE, Int.reduceNe, true_and, and_true, true_or, or_true, false_or, or_false, and_self, or_self, if_true, if_false, reduceIte, not_true_eq_false, not_false_eq_true, Int.reduceEq, Int.reduceNe, Int.reduceLT, Int.reduceLE, Int.reduceAdd, Int.reduceSub, Int.reduceMul, Int.reduceNeg, Nat.reduceAdd, Nat.reduceLeDiff, Nat.reduceEqDiff, ne_eq, List.length_cons, List.length_nil, Nat.reduceSub, q_isHere hT h ha hn hj hb hc1 hc hw, q', show bI false = 0 from rfl]
    exact hQ
set_option maxRecDepth 20000 in
theorem q_asks (hT : TapeR V) (h : TmV V H) {a : Nat} (ha : H 71 2 = a) (hn : a ≤ tpN V) {j : Int} (hj : H 71 4 = j) (hb : H 71 5 = 0) {c : Int} (hc1 : c ≠ 71) {w : List Int} (hc : ChW H c w) (hw : w.length ≤ 100) : CC (d + 3) MO_asks [va 71, va c] H Q = Q vu (if hereB V a j w = true then hs (hs (hs H 71 2 (skE V a)) 71 2 (enE V a)) 71 4 (enE V a) else hs (hs (hs H 71 2 (skE V a)) 71 5 1) 71 6 (skE V a)) := by
  refine CC_dt fun Q hQ => ?_
  by_cases q : hereB V a j w = true
  · rw [if_pos q] at hQ
    simp only [en_MO_asks, e_MO_asks_0, k_MO_asks_0, e_MO_asks_1, k_MO_asks_1, rr, sh, Nat.reduceLT, Nat.reduceMul, Int.reduceToNat, Int.reduceGT, Int.reduceGE, Int.reduceNe, true_and, and_true, true_or, or_true, false_or, or_false, and_self, or_self, if_true, if_false, reduceIte, not_true_eq_false, not_false_eq_true, Int.reduceEq, Int.reduceNe, Int.reduceLT, Int.reduceLE, Int.reduceAdd, Int.reduceSub, Int.reduceMul, Int.reduceNeg, Nat.reduceAdd, Nat.reduceLeDiff, Nat.reduceEqDiff, ne_eq, List.length_cons, List.length_nil, Nat.reduceSub, hb, q_takes hT h ha hn hj hb hc1 hc hw, q, show bI true = 1 from rfl]
    exact hQ
  · have q' : hereB V a j w = false := by simpa using q
    have hb2 : hs H 71 2 (skE V a) 71 5 = 0 := (hs2 (by decide)).trans hb
    rw [if_neg q] at hQ
    simp only [en_MO_asks, e_MO_asks_0, k_MO_asks_0, e_MO_asks_1, k_MO_asks_1, rr, sh, Nat.reduceLT, Nat.reduceMul, Int.reduceToNat, Int.reduceGT, Int.reduceGE, Int.reduceNe, true_and, and_true, true_or, or_true, false_or, or_false, and_self, or_self, if_true, if_false, reduceIte, not_true_eq_false, not_false_eq_true, Int.reduceEq, Int.reduceNe, Int.reduceLT, Int.reduceLE, Int.reduceAdd, Int.reduceSub, Int.reduceMul, Int.reduceNeg, Nat.reduceAdd, Nat.reduceLeDiff, Nat.reduceEqDiff, ne_eq, List.length_cons, List.length_nil, Nat.reduceSub, hb, q_takes hT h ha hn hj hb hc1 hc hw, q', Bool.false_eq_true, show bI false = 0 from rfl, hs_same, q_failM hb2]
    exact hQ
end LV
