/-! THE READING, the reference: a number -/
def sLM (a b : Int) : Bool := if a = 71 then (decide (b = 2) || decide (b = 4) || decide (b = 5) || decide (b = 6) || decide (b = 10)) else false
section LR
variable {d : Nat} {V H : Hp} {Q : AV → Hp → Prop}
theorem sLM_tm {H H' : Hp} (h : TmV V H) (hF : Fx sLM H H') : TmV V H' := ⟨(hF 71 0 rfl).trans h.1, (hF 71 3 rfl).trans h.2.1, (hF.cell 72 (fun _ => rfl)).trans h.2.2⟩
theorem q_number' {lo hi : Int} (hb : H 71 5 ≠ 0) : CC d MO_number [va 71, vi lo, vi hi] H Q = Q (vi 0) H := by
  refine CC_dt fun Q hQ => ?_
  simp only [en_MO_number, e_MO_number_0, k_MO_number_0, rr, sh, Nat.reduceLT, Nat.reduceMul, Int.reduceToNat, Int.reduceGT, Int.reduceGE, Int.reduceNe, true_and, and_true, true_or, or_true, false_or, or_false, and_self, or_self, if_true, if_false, reduceIte, not_true_eq_false, not_false_eq_true, Int.reduceEq, Int.reduceNe, Int.reduceLT, Int.reduceLE, Int.reduceAdd, Int.reduceSub, Int.reduceMul, Int.reduceNeg, Nat.reduceAdd, Nat.reduceLeDiff, Nat.reduceEqDiff, ne_eq, List.length_cons, List.length_nil, Nat.reduceSub, hb]
  exact hQ
end LR
