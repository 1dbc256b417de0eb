/-! THE READING, the class: a word taken -/
/-- a word may stand behind the blanks at a -/
def ltH (V : Hp) (a : Nat) (j : Int) : Bool := ltB (bz V (skE V a)) && decide ((skE V a : Int) ≠ j)
/-- which word of a list stands behind the blanks at a; -1 if none -/
def wrI (V : Hp) (a : Nat) (j : Int) (ws : List (List Int)) : Int := if ltH V a j = true then plI V (skE V a) (enE V a) ws 0 else -1
/-- a string of words -/
def StW (z : Int) (w : List Int) (ws : List (List Int)) : Prop := (z = 901 ∨ z = 902) ∧ (stx z).length ≤ 1000 ∧ stx z = flatW (w :: ws) ∧ ∀ w' ∈ w :: ws, ∀ c ∈ w', c ≠ 32
theorem stw_OW : StW 901 [115, 101, 97, 116] OW.tail := ⟨Or.inl rfl, by decide +kernel, flat_OW, by decide +kernel⟩
theorem stw_QW : StW 902 [102, 105, 114, 115, 116] QW.tail := ⟨Or.inr rfl, by decide +kernel, flat_QW, by decide +kernel⟩
section LU
variable {d : Nat} {V H : Hp} {Q : AV → Hp → Prop}
theorem q_failC {k p : Int} : CC d TP_fail [va 2, vi k, vi p] H Q = Q (vi 0) (hs (hs H 2 6 k) 2 7 p) := by
  refine CC_dt fun Q hQ => ?_
  simp only [en_TP_fail, e_TP_fail_0, k_TP_fail_0, rr, sh, Nat.reduceLT, Nat.reduceMul, Int.reduceToNat, Int.reduceGT, Int.reduceGE, Int.reduceNe, true_and, and_true, true_or, or_true, false_or, or_false, and_self, or_self, if_true, if_false, reduceIte, not_true_eq_false, not_false_eq_true, Int.reduceEq, Int.reduceNe, Int.reduceLT, Int.reduceLE, Int.reduceAdd, Int.reduceSub, Int.reduceMul, Int.reduceNeg, Nat.reduceAdd, Nat.reduceLeDiff, Nat.reduceEqDiff, ne_eq, List.length_cons, List.length_nil, Nat.reduceSub]
  exact hQ
theorem q_failHere {a : Int} (ha : H 2 2 = a) : CC (d + 1) TP_failHere [va 2] H Q = Q (vi 0) (hs (hs H 2 6 1) 2 7 a) := by
  refine CC_dt fun Q hQ => ?_
  simp only [en_TP_failHere, e_TP_failHere_0, k_TP_failHere_0, rr, sh, Nat.reduceLT, Nat.reduceMul, Int.reduceToNat, Int.reduceGT, Int.reduceGE, Int.reduceNe, true_and, and_true, true_or, or_true, false_or, or_false, and_self, or_self, if_true, if_false, reduceIte, not_true_eq_false, not_false_eq_true, Int.reduceEq, Int.reduceNe, Int.reduceLT, Int.reduceLE, Int.reduceAdd, Int.reduceSub, Int.reduceMul, Int.reduceNeg, Nat.reduceAdd, Nat.reduceLeDiff, Nat.reduceEqDiff, ne_eq, List.length_cons, List.length_nil, Nat.reduceSub, ha, q_failC]
  exact hQ
set_option maxRecDepth 20000 in
theorem q_wordHere (hT : TapeR V) (h : TpV V H) {a : Nat} (ha : H 2 2 = a) (hn : a ≤ tpN V) {j : Int} (hj : H 2 3 = j) {z : Int} {w : List Int} {ws : List (List Int)} (hz : StW z w ws) : CC (d + 3) TP_wordHere [va 2, va z] H Q = Q (vi (wrI V a j (w :: ws))) (hs H 2 2 (skE V a)) := by
  refine CC_dt fun Q hQ => ?_
  have n16 := tpN_le hT
  have s := skE_rng hn
  have hv : TpV V (hs H 2 2 (skE V a)) := h.hs (by decide)
  have b3 : hs H 2 2 (skE V a) 2 3 = j := (hs2 (by decide)).trans hj
  have b2 : hs H 2 2 (skE V a) 2 2 = skE V a := hs_same
  by_cases l1 : ltB (bz V (skE V a)) = true
  · by_cases l2 : (skE V a : Int) = j
    · have e : wrI V a j (w :: ws) = -1 := by unfold wrI ltH; rw [l1, decide_eq_false (fun z => z l2)]; rfl
      rw [e] at hQ
      subst l2
      simp only [en_TP_wordHere, e_TP_wordHere_0, k_TP_wordHere_0, e_TP_wordHere_1, k_TP_wordHere_1, e_TP_wordHere_2, k_TP_wordHere_2, rr, sh, Nat.reduceLT, Nat.reduceMul, Int.reduceToNat, Int.reduceGT, Int.reduceGE, Int.reduceNe, true_and, and_true, true_or, or_true, false_or, or_false, and_self, or_self, if_true, if_false, reduceIte, not_true_eq_false, not_false_eq_true, Int.reduceEq, Int.reduceNe, Int.reduceLT, Int.reduceLE, Int.reduceAdd, Int.reduceSub, Int.reduceMul, Int.reduceNeg, Nat.reduceAdd, Nat.reduceLeDiff, Nat.reduceEqDiff, ne_eq, List.length_cons, List.length_nil, Nat.reduceSub, q_next hT h ha hn, q_isLetterC, l1, show bI true = 1 from rfl, hs_same, b3]
      exact hQ
    · have e : wrI V a j (w :: ws) = plI V (skE V a) (enE V a) (w :: ws) 0 := by unfold wrI ltH; rw [l1, decide_eq_true l2]; rfl
      rw [e] at hQ
      have we : ∀ {Q : AV → Hp → Prop}, CC (d + 2) TP_wordEnd [va 2] (hs H 2 2 (skE V a)) Q = Q (vi (enE V a)) (hs H 2 2 (skE V a)) := fun {Q} => q_wordEnd (d := d + 1) hT hv b2 s.2
      have pl : ∀ {Q : AV → Hp → Prop}, CC (d + 2) TP_placeIn [va 2, va z, vi (enE V a)] (hs H 2 2 (skE V a)) Q = Q (vi (plI V (skE V a) (enE V a) (w :: ws) 0)) (hs H 2 2 (skE V a)) := fun {Q} => q_placeIn (d := d + 1) hT hv b2 (Nat.le_trans s.2 n16) hz.1 hz.2.1 hz.2.2.1 hz.2.2.2
      simp only [en_TP_wordHere, e_TP_wordHere_0, k_TP_wordHere_0, e_TP_wordHere_1, k_TP_wordHere_1, e_TP_wordHere_2, k_TP_wordHere_2, rr, sh, Nat.reduceLT, Nat.reduceMul, Int.reduceToNat, Int.reduceGT, Int.reduceGE, Int.reduceNe, true_and, and_true, true_or, or_true, false_or, or_false, and_self, or_self, if_true, if_false, reduceIte, not_true_eq_false, not_false_eq_true, Int.reduceEq, Int.reduceNe, Int.reduceLT, Int.reduceLE, Int.reduceAdd, Int.reduceSub, Int.reduceMul, Int.reduceNeg, Nat.reduceAdd, Nat.reduceLeDiff, Nat.reduceEqDiff, ne_eq, List.length_cons, List.length_nil, Nat.reduceSub, q_next hT h ha hn, q_isLetterC, l1, show bI true = 1 from rfl, hs_same, b3, l2, we, pl]
      exact hQ
  · have l1' : ltB (bz V (skE V a)) = false := by simpa using l1
    have e : wrI V a j (w :: ws) = -1 := by unfold wrI ltH; rw [l1']; rfl
    rw [e] at hQ
    simp only [en_TP_wordHere, e_TP_wordHere_0, k_TP_wordHere_0, e_TP_wordHere_1, k_TP_wordHere_1, e_TP_wordHere_2, k_TP_wordHere_2, rr, sh, Nat.reduceLT, Nat.reduceMul, Int.reduceToNat, Int.reduceGT, Int.reduceGE, Int.reduceNe, true_and, and_true, true_or, or_true, false_or, or_false, and_self, or_self, if_true, if_false, reduceIte, not_true_eq_false, not_false_eq_true, Int.reduceEq, Int.reduceNe, Int.reduceLT, Int.reduceLE, Int.reduceAdd, Int.reduceSub, Int.reduceMul, Int.reduceNeg, Nat.reduceAdd, Nat.reduceLeDiff, Nat.reduceEqDiff, ne_eq, List.length_cons, List.length_nil, Nat.reduceSub, q_next hT h ha hn, q_isLetterC, l1', show bI false = 0 from rfl]
    exact hQ
/-- the word that stands here is passed -/
theorem q_passWord (hT : TapeR V) (h : TpV V H) {a : Nat} (ha : H 2 2 = a) (hn : a ≤ tpN V) : CC (d + 2) TP_passWord [va 2] H Q = Q vu (hs (hs H 2 2 (weE V a)) 2 3 (weE V a)) := by
  refine CC_dt fun Q hQ => ?_
  simp only [en_TP_passWord, e_TP_passWord_0, k_TP_passWord_0, rr, sh, Nat.reduceLT, Nat.reduceMul, Int.reduceToNat, Int.reduceGT, Int.reduceGE, Int.reduceNe, true_and, and_true, true_or, or_true, false_or, or_false, and_self, or_self, if_true, if_false, reduceIte, not_true_eq_false, not_false_eq_true, Int.reduceEq, Int.reduceNe, Int.reduceLT, Int.reduceLE, Int.reduceAdd, Int.reduceSub, Int.reduceMul, Int.reduceNeg, Nat.reduceAdd, Nat.reduceLeDiff, Nat.reduceEqDiff, ne_eq, List.length_cons, List.length_nil, Nat.reduceSub, q_wordEnd hT h ha hn, hs_same]
  exact hQ
set_option maxRecDepth 20000 in
theorem q_takeWord (hT : TapeR V) (h : TpV V H) {a : Nat} (ha : H 2 2 = a) (hn : a ≤ tpN V) {j : Int} (hj : H 2 3 = j) {z : Int} {w : List Int} {ws : List (List Int)} (hz : StW z w ws) {i : Int} : CC (d + 4) TP_takeWord [va 2, va z, vi i] H Q = Q (vi (if wrI V a j (w :: ws) = i then 1 else 0)) (if wrI V a j (w :: ws) = i then hs (hs (hs H 2 2 (skE V a)) 2 2 (enE V a)) 2 3 (enE V a) else hs (hs (hs H 2 2 (skE V a)) 2 6 1) 2 7 (skE V a)) := by
  refine CC_dt fun Q hQ => ?_
  have s := skE_rng hn
  have hv : TpV V (hs H 2 2 (skE V a)) := h.hs (by decide)
  have b2 : hs H 2 2 (skE V a) 2 2 = skE V a := hs_same
  by_cases q : wrI V a j (w :: ws) = i
  · rw [if_pos q, if_pos q] at hQ
    have pw : ∀ {Q : AV → Hp → Prop}, CC (d + 3) TP_passWord [va 2] (hs H 2 2 (skE V a)) Q = Q vu (hs (hs (hs H 2 2 (skE V a)) 2 2 (enE V a)) 2 3 (enE V a)) := fun {Q} => q_passWord (d := d + 1) hT hv b2 s.2
    simp only [en_TP_takeWord, e_TP_takeWord_0, k_TP_takeWord_0, e_TP_takeWord_1, k_TP_takeWord_1, rr, sh, Nat.reduceLT, Nat.reduceMul, Int.reduceToNat, Int.reduceGT, Int.reduceGE, Int.reduceNe, true_and, and_true, true_or, or_true, false_or, or_false, and_self, or_self, if_true, if_false, reduceIte, not_true_eq_false, not_false_eq_true, Int.reduceEq, Int.reduceNe, Int.reduceLT, Int.reduceLE, Int.reduceAdd, Int.reduceSub, Int.reduceMul, Int.reduceNeg, Nat.reduceAdd, Nat.reduceLeDiff, Nat.reduceEqDiff, ne_eq, List.length_cons, List.length_nil, Nat.reduceSub, q_wordHere hT h ha hn hj hz, q, pw, eq_self]
    exact hQ
  · rw [if_neg q, if_neg q] at hQ
    have fh : ∀ {Q : AV → Hp → Prop}, CC (d + 3) TP_failHere [va 2] (hs H 2 2 (skE V a)) Q = Q (vi 0) (hs (hs (hs H 2 2 (skE V a)) 2 6 1) 2 7 (skE V a)) := fun {Q} => q_failHere (d := d + 2) b2
    simp only [en_TP_takeWord, e_TP_takeWord_0, k_TP_takeWord_0, e_TP_takeWord_1, k_TP_takeWord_1, rr, sh, Nat.reduceLT, Nat.reduceMul, Int.reduceToNat, Int.reduceGT, Int.reduceGE, Int.reduceNe, true_and, and_true, true_or, or_true, false_or, or_false, and_self, or_self, if_true, if_false, reduceIte, not_true_eq_false, not_false_eq_true, Int.reduceEq, Int.reduceNe, Int.reduceLT, Int.reduceLE, Int.reduceAdd, Int.reduceSub, Int.reduceMul, Int.reduceNeg, Nat.reduceAdd, Nat.reduceLeDiff, Nat.reduceEqDiff, ne_eq, List.length_cons, List.length_nil, Nat.reduceSub, q_wordHere hT h ha hn hj hz, q, fh]
    exact hQ
set_option maxRecDepth 20000 in
theorem q_anyWordEnd (hT : TapeR V) (h : TpV V H) {a : Nat} (ha : H 2 2 = a) (hn : a ≤ tpN V) {j : Int} (hj : H 2 3 = j) : CC (d + 2) TP_anyWordEnd [va 2] H Q = Q (vi (if ltH V a j = true then (enE V a : Int) else -1)) (hs H 2 2 (skE V a)) := by
  refine CC_dt fun Q hQ => ?_
  have s := skE_rng hn
  have hv : TpV V (hs H 2 2 (skE V a)) := h.hs (by decide)
  have b3 : hs H 2 2 (skE V a) 2 3 = j := (hs2 (by decide)).trans hj
  have b2 : hs H 2 2 (skE V a) 2 2 = skE V a := hs_same
  by_cases l1 : ltB (bz V (skE V a)) = true
  · by_cases l2 : (skE V a : Int) = j
    · have e : ltH V a j = false := by unfold ltH; rw [l1, decide_eq_false (fun z => z l2)]; rfl
      rw [e] at hQ
      subst l2
      simp only [en_TP_anyWordEnd, e_TP_anyWordEnd_0, k_TP_anyWordEnd_0, e_TP_anyWordEnd_1, k_TP_anyWordEnd_1, e_TP_anyWordEnd_2, k_TP_anyWordEnd_2, rr, sh, Nat.reduceLT, Nat.reduceMul, Int.reduceToNat, Int.reduceGT, Int.reduceGE, Int.reduceNe, true_and, and_true, true_or, or_true, false_or, or_false, and_self, or_self, if_true, if_false, reduceIte, not_true_eq_false, not_false_eq_true, Int.reduceEq, Int.reduceNe, Int.reduceLT, Int.reduceLE, Int.reduceAdd, Int.reduceSub, Int.reduceMul, Int.reduceNeg, Nat.reduceAdd, Nat.reduceLeDiff, Nat.reduceEqDiff, ne_eq, List.length_cons, List.length_nil, Nat.reduceSub, q_next hT h ha hn, q_isLetterC, l1, show bI true = 1 from rfl, hs_same, b3]
      exact hQ
    · have e : ltH V a j = true := by unfold ltH; rw [l1, decide_eq_true l2]; rfl
      rw [e, if_pos rfl] at hQ
      have we : ∀ {Q : AV → Hp → Prop}, CC (d + 1) TP_wordEnd [va 2] (hs H 2 2 (skE V a)) Q = Q (vi (enE V a)) (hs H 2 2 (skE V a)) := fun {Q} => q_wordEnd (d := d) hT hv b2 s.2
      simp only [en_TP_anyWordEnd, e_TP_anyWordEnd_0, k_TP_anyWordEnd_0, e_TP_anyWordEnd_1, k_TP_anyWordEnd_1, e_TP_anyWordEnd_2, k_TP_anyWordEnd_2, rr, sh, Nat.reduceLT, Nat.reduceMul, Int.reduceToNat, Int.reduceGT, Int.reduceGE, Int.reduceNe, true_and, and_true, true_or, or_true, false_or, or_false, and_self, or_self, if_true, if_false, reduceIte, not_true_eq_false, not_false_eq_true, Int.reduceEq, Int.reduceNe, Int.reduceLT, Int.reduceLE, Int.reduceAdd, Int.reduceSub, Int.reduceMul, Int.reduceNeg, Nat.reduceAdd, Nat.reduceLeDiff, Nat.reduceEqDiff, ne_eq, List.length_cons, List.length_nil, Nat.reduceSub, q_next hT h ha hn, q_isLetterC, l1, show bI true = 1 from rfl, hs_same, b3, l2, we]
      exact hQ
  · have l1' : ltB (bz V (skE V a)) = false := by simpa using l1
    have e : ltH V a j = false := by unfold ltH; rw [l1']; rfl
    rw [e] at hQ
    simp only [en_TP_anyWordEnd, e_TP_anyWordEnd_0, k_TP_anyWordEnd_0, e_TP_anyWordEnd_1, k_TP_anyWordEnd_1, e_TP_anyWordEnd_2, k_TP_anyWordEnd_2, rr, sh, Nat.reduceLT, Nat.reduceMul, Int.reduceToNat, Int.reduceGT, Int.reduceGE, Int.reduceNe, true_and, and_true, true_or, or_true, false_or, or_false, and_self, or_self, if_true, if_false, reduceIte, not_true_eq_false, not_false_eq_true, Int.reduceEq, Int.reduceNe, Int.reduceLT, Int.reduceLE, Int.reduceAdd, Int.reduceSub, Int.reduceMul, Int.reduceNeg, Nat.reduceAdd, Nat.reduceLeDiff, Nat.reduceEqDiff, ne_eq, List.length_cons, List.length_nil, Nat.reduceSub, q_next hT h ha hn, q_isLetterC, l1', show bI false = 0 from rfl]
    exact hQ
end LU
