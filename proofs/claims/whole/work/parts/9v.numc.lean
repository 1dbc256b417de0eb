/-! THE READING, the class: a number taken -/
section LS
variable {d : Nat} {V H : Hp} {Q : AV → Hp → Prop}
theorem sLX_tp {H H' : Hp} (h : TpV V H) (hF : Fx sLX H H') : TpV V H' := ⟨(hF 2 0 rfl).trans h.1, (hF 2 1 rfl).trans h.2.1, (hF.cell 3 (fun _ => rfl)).trans h.2.2⟩
set_option maxRecDepth 20000 in
theorem c_takeNumber (hT : TapeR V) (h : TpV V H) {a : Nat} (ha : H 2 2 = a) (hn : a ≤ tpN V) {j : Int} (hj : H 2 3 = j) {lo hi : Int}
    (hno : dgH V a j = false → ∀ H', Fx sLX H H' → H' 2 6 = 1 → H' 2 7 = skE V a → Q (vi 0) H')
    (hlong : dgH V a j = true → dgB (bz V (dgE V (skE V a))) = true → ∀ H', Fx sLX H H' → H' 2 6 = 1 → H' 2 7 = dgE V (skE V a) → Q (vi 0) H')
    (hin : dgH V a j = true → dgB (bz V (dgE V (skE V a))) = false → ∀ H', Fx sLX H H' → H' 2 2 = dgE V (skE V a) → H' 2 3 = dgE V (skE V a) → H' 2 4 = nuV V (skE V a) (dgE V (skE V a) - skE V a) → H' 2 5 = skE V a → (lo ≤ nuV V (skE V a) (dgE V (skE V a) - skE V a) ∧ nuV V (skE V a) (dgE V (skE V a) - skE V a) ≤ hi → H' 2 6 = H 2 6 → H' 2 7 = H 2 7 → Q (vi 1) H') ∧ (¬ (lo ≤ nuV V (skE V a) (dgE V (skE V a) - skE V a) ∧ nuV V (skE V a) (dgE V (skE V a) - skE V a) ≤ hi) → H' 2 6 = 2 → H' 2 7 = skE V a → Q (vi 0) H')) : CC (d + 2) TP_takeNumber [va 2, vi lo, vi hi] H Q := by
  have n16 := tpN_le hT
  have s := skE_rng hn
  have hv : TpV V (hs H 2 2 (skE V a)) := h.hs (by decide)
  have b3 : hs H 2 2 (skE V a) 2 3 = j := (hs2 (by decide)).trans hj
  have b2 : hs H 2 2 (skE V a) 2 2 = skE V a := hs_same
  have f0 : Fx sLX H (hs H 2 2 (skE V a)) := Fx.rf.hs (c := 2) (j := 2) rfl
  have hfail : dgH V a j = false → R (d + 2) TP_takeNumber (blk TP_takeNumber 2) [va 2, vi lo, vi hi, vu, vu] [vi 0] (hs H 2 2 (skE V a)) Q := by
    intro hd
    have fh : ∀ {Q : AV → Hp → Prop}, CC (d + 1) TP_failHere [va 2] (hs (hs (hs H 2 2 (skE V a)) 2 5 (skE V a)) 2 4 0) Q = Q (vi 0) (hs (hs (hs (hs (hs H 2 2 (skE V a)) 2 5 (skE V a)) 2 4 0) 2 6 1) 2 7 (skE V a)) := fun {Q} => q_failHere (d := d) ((hs2 (by decide)).trans ((hs2 (by decide)).trans b2))
    simp only [e_TP_takeNumber_2, k_TP_takeNumber_2, rr, sh, Nat.reduceLT, Nat.reduceMul, Int.reduceToNat, Int.reduceGT, Int.reduceGE, Int.reduceNe, true_and, and_true, true_or, or_true, false_or, or_false, and_self, or_self, if_true, if_false, reduceIte, not_true_eq_false, not_false_eq_true, Int.reduceEq, Int.reduceNe, Int.reduceLT, Int.reduceLE, Int.reduceAdd, Int.reduceSub, Int.reduceMul, Int.reduceNeg, Nat.reduceAdd, Nat.reduceLeDiff, Nat.reduceEqDiff, ne_eq, List.length_cons, List.length_nil, Nat.reduceSub, b2, fh]
    refine hno hd _ ((((f0.hs (c := 2) (j := 5) rfl).hs (c := 2) (j := 4) rfl).hs (c := 2) (j := 6) rfl).hs (c := 2) (j := 7) rfl) ((hs2 (by decide)).trans hs_same) hs_same
  by_cases l1 : dgB (bz V (skE V a)) = true
  · by_cases l2 : (skE V a : Int) = j
    · have := hfail (by unfold dgH; rw [l1, decide_eq_false (fun z => z l2)]; rfl)
      subst l2
      simp only [en_TP_takeNumber, e_TP_takeNumber_0, k_TP_takeNumber_0, e_TP_takeNumber_1, k_TP_takeNumber_1, rr, sh, Nat.reduceLT, Nat.reduceMul, Int.reduceToNat, Int.reduceGT, Int.reduceGE, Int.reduceNe, true_and, and_true, true_or, or_true, false_or, or_false, and_self, or_self, if_true, if_false, reduceIte, not_true_eq_false, not_false_eq_true, Int.reduceEq, Int.reduceNe, Int.reduceLT, Int.reduceLE, Int.reduceAdd, Int.reduceSub, Int.reduceMul, Int.reduceNeg, Nat.reduceAdd, Nat.reduceLeDiff, Nat.reduceEqDiff, ne_eq, List.length_cons, List.length_nil, Nat.reduceSub, q_next hT h ha hn, q_isDigitC, l1, show bI true = 1 from rfl, b2, b3]
      exact this
    · have hd : dgH V a j = true := by unfold dgH; rw [l1, decide_eq_true l2]; rfl
      have hlong := hlong hd
      have hin := hin hd
      simp only [en_TP_takeNumber, e_TP_takeNumber_0, k_TP_takeNumber_0, e_TP_takeNumber_2, k_TP_takeNumber_2, e_TP_takeNumber_3, k_TP_takeNumber_3, rr, sh, Nat.reduceLT, Nat.reduceMul, Int.reduceToNat, Int.reduceGT, Int.reduceGE, Int.reduceNe, true_and, and_true, true_or, or_true, false_or, or_false, and_self, or_self, if_true, if_false, reduceIte, not_true_eq_false, not_false_eq_true, Int.reduceEq, Int.reduceNe, Int.reduceLT, Int.reduceLE, Int.reduceAdd, Int.reduceSub, Int.reduceMul, Int.reduceNeg, Nat.reduceAdd, Nat.reduceLeDiff, Nat.reduceEqDiff, ne_eq, List.length_cons, List.length_nil, Nat.reduceSub, q_next hT h ha hn, q_isDigitC, l1, show bI true = 1 from rfl, b2, b3, l2]
      sorry
  · have l1' : dgB (bz V (skE V a)) = false := by simpa using l1
    have := hfail (by unfold dgH; rw [l1']; rfl)
    simp only [en_TP_takeNumber, e_TP_takeNumber_0, k_TP_takeNumber_0, e_TP_takeNumber_1, k_TP_takeNumber_1, rr, sh, Nat.reduceLT, Nat.reduceMul, Int.reduceToNat, Int.reduceGT, Int.reduceGE, Int.reduceNe, true_and, and_true, true_or, or_true, false_or, or_false, and_self, or_self, if_true, if_false, reduceIte, not_true_eq_false, not_false_eq_true, Int.reduceEq, Int.reduceNe, Int.reduceLT, Int.reduceLE, Int.reduceAdd, Int.reduceSub, Int.reduceMul, Int.reduceNeg, Nat.reduceAdd, Nat.reduceLeDiff, Nat.reduceEqDiff, ne_eq, List.length_cons, List.length_nil, Nat.reduceSub, q_next hT h ha hn, q_isDigitC, l1', show bI false = 0 from rfl]
    exact this
end LS
