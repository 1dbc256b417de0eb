/-! QUESTIONS: words, the reference -/
def qcell (i : Nat) : Int := if i = 0 then 119 else if i = 1 then 120 else if i = 2 then 121 else if i = 3 then 122 else if i = 4 then 123 else if i = 5 then 124 else if i = 6 then 127 else if i = 7 then 126 else if i = 8 then 125 else if i = 9 then 128 else if i = 10 then 131 else if i = 11 then 132 else if i = 12 then 133 else if i = 13 then 134 else if i = 14 then 135 else if i = 15 then 129 else if i = 16 then 130 else 0
theorem chQ {H : Hp} (hW : Wds H) {i : Nat} (hi : i < 17) : ChW H (qcell i) (QW.getD i []) ∧ (QW.getD i []).length ≤ 100 ∧ qcell i ≠ 71 := by
  have h1 : ∀ i : Nat, i < 17 → sht (qcell i) = 4 ∧ shl (qcell i) = ((QW.getD i []).length : Nat) ∧ (QW.getD i []).length ≤ 100 ∧ qcell i ≠ 71 := by decide +kernel
  have h2 : ∀ i : Nat, i < 17 → ((List.range (QW.getD i []).length).all (fun k => wdL.contains (qcell i, (k : Int), (QW.getD i []).getD k 0))) = true := by decide +kernel
  refine ⟨⟨(h1 i hi).1, (h1 i hi).2.1, fun k hk => ?_⟩, (h1 i hi).2.2⟩
  have h3 := List.all_eq_true.mp (h2 i hi) k (List.mem_range.mpr hk)
  exact hW _ (List.contains_iff_mem.mp h3)
theorem here_q {V : Hp} {a : Nat} {j : Int} {i : Nat} (hi : i < 17) : hereB V a j (QW.getD i []) = decide (wrI V a j QW = i) := by
  have key := wr_at (V := V) (a := a) (j := j) nod_QW (i := i) hi
  by_cases c : wrI V a j QW = i
  · rw [key.mp c, decide_eq_true c]
  · rw [decide_eq_false c]
    cases h : hereB V a j (QW.getD i []) with
    | false => rfl
    | true => exact absurd (key.mpr h) c
theorem mq_f {H : Hp} (h : Ptr H) : H 71 70 = 119 ∧ H 71 71 = 120 ∧ H 71 72 = 121 ∧ H 71 73 = 122 ∧ H 71 74 = 123 ∧ H 71 75 = 124 ∧ H 71 76 = 125 ∧ H 71 77 = 126 ∧ H 71 78 = 127 ∧ H 71 79 = 128 ∧ H 71 80 = 129 ∧ H 71 81 = 130 ∧ H 71 82 = 131 ∧ H 71 83 = 132 ∧ H 71 84 = 133 ∧ H 71 85 = 134 ∧ H 71 86 = 135 := by
  refine ⟨h (71, 70, 119) (by decide +kernel), h (71, 71, 120) (by decide +kernel), h (71, 72, 121) (by decide +kernel), h (71, 73, 122) (by decide +kernel), h (71, 74, 123) (by decide +kernel), h (71, 75, 124) (by decide +kernel), h (71, 76, 125) (by decide +kernel), h (71, 77, 126) (by decide +kernel), h (71, 78, 127) (by decide +kernel), h (71, 79, 128) (by decide +kernel), h (71, 80, 129) (by decide +kernel), h (71, 81, 130) (by decide +kernel), h (71, 82, 131) (by decide +kernel), h (71, 83, 132) (by decide +kernel), h (71, 84, 133) (by decide +kernel), h (71, 85, 134) (by decide +kernel), h (71, 86, 135) (by decide +kernel)⟩
def qWh (w : Int) : Int := if w = 10 then 0 else if w = 11 then 1 else if w = 12 then 2 else if w = 13 then 3 else if w = 14 then 4 else -1
section QX1
variable {d : Nat} {V B H : Hp} {Q : AV → Hp → Prop} {a : Nat} {j : Int} {C W : List Int} {o b : Nat}
/-- the same, at itself -/
def MQa (V B H : Hp) (a : Nat) (j : Int) (C W : List Int) (o b : Nat) : Prop := MQs V B H a j C W o b ∧ MRd V H a j ∧ skE V a = a
theorem MQs.mv (h : MQs V B H a j C W o b) : MQa V B (hs H 71 2 a) a j C W o b := by
  obtain ⟨k1, k2⟩ := h.sk
  obtain ⟨p, h1, h2⟩ := h.1
  exact ⟨h.lm (Fx.rf.hs (c := 71) (j := 2) rfl) (h1.mv k2) k1 (Nat.le_refl _), h1.mv k2, k1⟩
theorem MQs.look (hT : TapeR V) (h : MQs V B H a j C W o b) : CC d MO_look [va 71] H Q = Q (vi (bz V a)) (hs H 71 2 a) := by
  obtain ⟨p, h1, h2⟩ := h.1
  rw [q_look hT h1.1 h1.2.1 h1.2.2.2.2.2, h2]
theorem MQa.same (h : MQa V B H a j C W o b) : hs H 71 2 a = H := by rw [← h.2.1.2.1, hs_self]
theorem MQa.look (hT : TapeR V) (h : MQa V B H a j C W o b) : CC d MO_look [va 71] H Q = Q (vi (bz V a)) H := by rw [h.1.look hT, h.same]
theorem MQa.here (hT : TapeR V) (hWB : Wds B) (h : MQa V B H a j C W o b) {i : Nat} (hi : i < 17) {c : Int} (hc : c = qcell i) : CC (d + 1) MO_isHere [va 71, va c] H Q = Q (vi (bI (decide (wrI V a j QW = i)))) H := by
  subst hc
  have hw := chQ (h.1.wds hWB) hi
  rw [q_isHereS hT h.2.1 h.2.2 hw.2.2 hw.1 hw.2.1, here_q hi]
theorem MQs.takesN (hT : TapeR V) (hWB : Wds B) (h : MQs V B H a j C W o b) {i : Nat} (hi : i < 17) {c : Int} (hc : c = qcell i) (hw : ¬ wrI V a j QW = i) : CC (d + 2) MO_takes [va 71, va c] H Q = Q (vi 0) (hs H 71 2 a) := by
  subst hc
  have hq := chQ (h.wds hWB) hi
  obtain ⟨p, h1, h2⟩ := h.1
  have e : hereB V p j (QW.getD i []) = false := by
    rw [here_q hi, wrQ_sk h2 h1.2.2.2.2.2, decide_eq_false hw]
  rw [q_takes hT h1.1 h1.2.1 h1.2.2.2.2.2 h1.2.2.1 h1.2.2.2.1 hq.2.2 hq.1 hq.2.1, e, if_neg (by decide), h2]
  rfl
theorem MQs.takesY (hT : TapeR V) (hWB : Wds B) (h : MQs V B H a j C W o b) {i : Nat} (hi : i < 17) {c : Int} (hc : c = qcell i) (hw : wrI V a j QW = i) : CC (d + 2) MO_takes [va 71, va c] H Q = Q (vi 1) (hs (hs (hs H 71 2 a) 71 2 (enE V a)) 71 4 (enE V a)) := by
  subst hc
  have hq := chQ (h.wds hWB) hi
  obtain ⟨p, h1, h2⟩ := h.1
  have e : hereB V p j (QW.getD i []) = true := by
    rw [here_q hi, wrQ_sk h2 h1.2.2.2.2.2, decide_eq_true hw]
  have en : enE V p = enE V a := by rw [← h2, enE_sk h1.2.2.2.2.2]
  rw [q_takes hT h1.1 h1.2.1 h1.2.2.2.2.2 h1.2.2.1 h1.2.2.2.1 hq.2.2 hq.1 hq.2.1, e, if_pos rfl, h2, en]
  rfl
theorem MQs.asksY (hT : TapeR V) (hWB : Wds B) (h : MQs V B H a j C W o b) {i : Nat} (hi : i < 17) {c : Int} (hc : c = qcell i) (hw : wrI V a j QW = i) : CC (d + 3) MO_asks [va 71, va c] H Q = Q vu (hs (hs (hs H 71 2 a) 71 2 (enE V a)) 71 4 (enE V a)) := by
  subst hc
  have hq := chQ (h.wds hWB) hi
  obtain ⟨p, h1, h2⟩ := h.1
  have e : hereB V p j (QW.getD i []) = true := by
    rw [here_q hi, wrQ_sk h2 h1.2.2.2.2.2, decide_eq_true hw]
  have en : enE V p = enE V a := by rw [← h2, enE_sk h1.2.2.2.2.2]
  rw [q_asks hT h1.1 h1.2.1 h1.2.2.2.2.2 h1.2.2.1 h1.2.2.2.1 hq.2.2 hq.1 hq.2.1, e, if_pos rfl, h2, en]
/-- behind a word -/
theorem MQs.pass (h : MQs V B H a j C W o b) : MQs V B (hs (hs (hs H 71 2 a) 71 2 (enE V a)) 71 4 (enE V a)) (skE V (enE V a)) (enE V a) C W o b := by
  have m := h.mv
  have r := enE_rng h.sk.2
  have F : Fx sLM (hs H 71 2 a) (hs (hs (hs H 71 2 a) 71 2 (enE V a)) 71 4 (enE V a)) := (Fx.rf.hs (c := 71) (j := 2) rfl).hs (c := 71) (j := 4) rfl
  exact m.1.lm F (p := enE V a) (sLM_ms m.2.1 F ((hs2 (by decide)).trans hs_same) hs_same ((hs2 (by decide)).trans ((hs2 (by decide)).trans m.2.1.2.2.2.1)) ((hs2 (by decide)).trans ((hs2 (by decide)).trans m.2.1.2.2.2.2.1)) r.2.1) rfl (Nat.le_trans r.1 (skE_rng r.2.1).1)
theorem MQa.sign (h : MQa V B H a j C W o b) (hc : 0 ≤ bz V a) : MQs V B (hs H 71 2 ((a + 1 : Nat) : Int)) (skE V (a + 1)) j C W o b := by
  have lt := bz_in' (V := V) (k := a) rfl hc
  exact h.1.lm (Fx.rf.hs (c := 71) (j := 2) rfl) (h.2.1.mv (b := a + 1) lt) rfl (Nat.le_trans (Nat.le_succ a) (skE_rng lt).1)
set_option maxRecDepth 20000 in
theorem q_qWordHere (hT : TapeR V) (hPB : Ptr B) (hWB : Wds B) (h : MQa V B H a j C W o b) : CC (d + 2) MO_qWordHere [va 71] H Q = Q (vi (qWh (wrI V a j QW))) H := by
  refine CC_dt fun Q hQ => ?_
  have f := mq_f (h.1.ptr hPB)
  have t10 : ∀ {Q : AV → Hp → Prop}, CC (d + 1) MO_isHere [va 71, va 131] H Q = Q (vi (bI (decide (wrI V a j QW = 10)))) H := fun {Q} => h.here (d := d) hT hWB (i := 10) (by decide) rfl
  have t11 : ∀ {Q : AV → Hp → Prop}, CC (d + 1) MO_isHere [va 71, va 132] H Q = Q (vi (bI (decide (wrI V a j QW = 11)))) H := fun {Q} => h.here (d := d) hT hWB (i := 11) (by decide) rfl
  have t12 : ∀ {Q : AV → Hp → Prop}, CC (d + 1) MO_isHere [va 71, va 133] H Q = Q (vi (bI (decide (wrI V a j QW = 12)))) H := fun {Q} => h.here (d := d) hT hWB (i := 12) (by decide) rfl
  have t13 : ∀ {Q : AV → Hp → Prop}, CC (d + 1) MO_isHere [va 71, va 134] H Q = Q (vi (bI (decide (wrI V a j QW = 13)))) H := fun {Q} => h.here (d := d) hT hWB (i := 13) (by decide) rfl
  have t14 : ∀ {Q : AV → Hp → Prop}, CC (d + 1) MO_isHere [va 71, va 135] H Q = Q (vi (bI (decide (wrI V a j QW = 14)))) H := fun {Q} => h.here (d := d) hT hWB (i := 14) (by decide) rfl
  generalize wrI V a j QW = w at *
  unfold qWh at hQ
  have by_ : ∀ p : Prop, [Decidable p] → ¬ p → bI (decide p) = 0 := fun p _ hp => by rw [decide_eq_false hp]; rfl
  have by1 : ∀ p : Prop, [Decidable p] → p → bI (decide p) = 1 := fun p _ hp => by rw [decide_eq_true hp]; rfl
  by_cases c10 : w = 10
  · rw [if_pos c10] at hQ
    rw [by1 _ c10] at t10
    simp only [en_MO_qWordHere, e_MO_qWordHere_0, k_MO_qWordHere_0, e_MO_qWordHere_1, k_MO_qWordHere_1, e_MO_qWordHere_2, k_MO_qWordHere_2, e_MO_qWordHere_3, k_MO_qWordHere_3, e_MO_qWordHere_4, k_MO_qWordHere_4, e_MO_qWordHere_5, k_MO_qWordHere_5, rr, sh, Nat.reduceLT, Nat.reduceMul, Int.reduceToNat, Int.reduceGT, Int.reduceGE, Int.reduceNe, true_and, and_true, true_or, or_true, false_or, or_false, and_self, or_self, if_true, if_false, reduceIte, not_true_eq_false, not_false_eq_true, Int.reduceEq, Int.reduceNe, Int.reduceLT, Int.reduceLE, Int.reduceAdd, Int.reduceSub, Int.reduceMul, Int.reduceNeg, Nat.reduceAdd, Nat.reduceLeDiff, Nat.reduceEqDiff, ne_eq, List.length_cons, List.length_nil, Nat.reduceSub, f, t10]
    exact hQ
  · rw [if_neg c10] at hQ
    rw [by_ _ c10] at t10
    by_cases c11 : w = 11
    · rw [if_pos c11] at hQ
      rw [by1 _ c11] at t11
      simp only [en_MO_qWordHere, e_MO_qWordHere_0, k_MO_qWordHere_0, e_MO_qWordHere_1, k_MO_qWordHere_1, e_MO_qWordHere_2, k_MO_qWordHere_2, e_MO_qWordHere_3, k_MO_qWordHere_3, e_MO_qWordHere_4, k_MO_qWordHere_4, e_MO_qWordHere_5, k_MO_qWordHere_5, rr, sh, Nat.reduceLT, Nat.reduceMul, Int.reduceToNat, Int.reduceGT, Int.reduceGE, Int.reduceNe, true_and, and_true, true_or, or_true, false_or, or_false, and_self, or_self, if_true, if_false, reduceIte, not_true_eq_false, not_false_eq_true, Int.reduceEq, Int.reduceNe, Int.reduceLT, Int.reduceLE, Int.reduceAdd, Int.reduceSub, Int.reduceMul, Int.reduceNeg, Nat.reduceAdd, Nat.reduceLeDiff, Nat.reduceEqDiff, ne_eq, List.length_cons, List.length_nil, Nat.reduceSub, f, t10, t11]
      exact hQ
    · rw [if_neg c11] at hQ
      rw [by_ _ c11] at t11
      by_cases c12 : w = 12
      · rw [if_pos c12] at hQ
        rw [by1 _ c12] at t12
        simp only [en_MO_qWordHere, e_MO_qWordHere_0, k_MO_qWordHere_0, e_MO_qWordHere_1, k_MO_qWordHere_1, e_MO_qWordHere_2, k_MO_qWordHere_2, e_MO_qWordHere_3, k_MO_qWordHere_3, e_MO_qWordHere_4, k_MO_qWordHere_4, e_MO_qWordHere_5, k_MO_qWordHere_5, rr, sh, Nat.reduceLT, Nat.reduceMul, Int.reduceToNat, Int.reduceGT, Int.reduceGE, Int.reduceNe, true_and, and_true, true_or, or_true, false_or, or_false, and_self, or_self, if_true, if_false, reduceIte, not_true_eq_false, not_false_eq_true, Int.reduceEq, Int.reduceNe, Int.reduceLT, Int.reduceLE, Int.reduceAdd, Int.reduceSub, Int.reduceMul, Int.reduceNeg, Nat.reduceAdd, Nat.reduceLeDiff, Nat.reduceEqDiff, ne_eq, List.length_cons, List.length_nil, Nat.reduceSub, f, t10, t11, t12]
        exact hQ
      · rw [if_neg c12] at hQ
        rw [by_ _ c12] at t12
        by_cases c13 : w = 13
        · rw [if_pos c13] at hQ
          rw [by1 _ c13] at t13
          simp only [en_MO_qWordHere, e_MO_qWordHere_0, k_MO_qWordHere_0, e_MO_qWordHere_1, k_MO_qWordHere_1, e_MO_qWordHere_2, k_MO_qWordHere_2, e_MO_qWordHere_3, k_MO_qWordHere_3, e_MO_qWordHere_4, k_MO_qWordHere_4, e_MO_qWordHere_5, k_MO_qWordHere_5, rr, sh, Nat.reduceLT, Nat.reduceMul, Int.reduceToNat, Int.reduceGT, Int.reduceGE, Int.reduceNe, true_and, and_true, true_or, or_true, false_or, or_false, and_self, or_self, if_true, if_false, reduceIte, not_true_eq_false, not_false_eq_true, Int.reduceEq, Int.reduceNe, Int.reduceLT, Int.reduceLE, Int.reduceAdd, Int.reduceSub, Int.reduceMul, Int.reduceNeg, Nat.reduceAdd, Nat.reduceLeDiff, Nat.reduceEqDiff, ne_eq, List.length_cons, List.length_nil, Nat.reduceSub, f, t10, t11, t12, t13]
          exact hQ
        · rw [if_neg c13] at hQ
          rw [by_ _ c13] at t13
          by_cases c14 : w = 14
          · rw [if_pos c14] at hQ
            rw [by1 _ c14] at t14
            simp only [en_MO_qWordHere, e_MO_qWordHere_0, k_MO_qWordHere_0, e_MO_qWordHere_1, k_MO_qWordHere_1, e_MO_qWordHere_2, k_MO_qWordHere_2, e_MO_qWordHere_3, k_MO_qWordHere_3, e_MO_qWordHere_4, k_MO_qWordHere_4, e_MO_qWordHere_5, k_MO_qWordHere_5, rr, sh, Nat.reduceLT, Nat.reduceMul, Int.reduceToNat, Int.reduceGT, Int.reduceGE, Int.reduceNe, true_and, and_true, true_or, or_true, false_or, or_false, and_self, or_self, if_true, if_false, reduceIte, not_true_eq_false, not_false_eq_true, Int.reduceEq, Int.reduceNe, Int.reduceLT, Int.reduceLE, Int.reduceAdd, Int.reduceSub, Int.reduceMul, Int.reduceNeg, Nat.reduceAdd, Nat.reduceLeDiff, Nat.reduceEqDiff, ne_eq, List.length_cons, List.length_nil, Nat.reduceSub, f, t10, t11, t12, t13, t14]
            exact hQ
          · rw [if_neg c14] at hQ
            rw [by_ _ c14] at t14
            simp only [en_MO_qWordHere, e_MO_qWordHere_0, k_MO_qWordHere_0, e_MO_qWordHere_1, k_MO_qWordHere_1, e_MO_qWordHere_2, k_MO_qWordHere_2, e_MO_qWordHere_3, k_MO_qWordHere_3, e_MO_qWordHere_4, k_MO_qWordHere_4, e_MO_qWordHere_5, k_MO_qWordHere_5, rr, sh, Nat.reduceLT, Nat.reduceMul, Int.reduceToNat, Int.reduceGT, Int.reduceGE, Int.reduceNe, true_and, and_true, true_or, or_true, false_or, or_false, and_self, or_self, if_true, if_false, reduceIte, not_true_eq_false, not_false_eq_true, Int.reduceEq, Int.reduceNe, Int.reduceLT, Int.reduceLE, Int.reduceAdd, Int.reduceSub, Int.reduceMul, Int.reduceNeg, Nat.reduceAdd, Nat.reduceLeDiff, Nat.reduceEqDiff, ne_eq, List.length_cons, List.length_nil, Nat.reduceSub, f, t10, t11, t12, t13, t14]
            exact hQ
theorem q_qWordOf (hT : TapeR V) (hPB : Ptr B) (hWB : Wds B) (h : MQa V B H a j C W o b) {l u : Int} : CC (d + 3) MO_qWordOf [va 71, vi l, vi u] H Q = Q (vi (if l ≤ qWh (wrI V a j QW) ∧ qWh (wrI V a j QW) < u then qWh (wrI V a j QW) else -1)) H := by
  refine CC_dt fun Q hQ => ?_
  have q := fun {Q} => q_qWordHere (d := d) (Q := Q) hT hPB hWB h
  generalize qWh (wrI V a j QW) = w at *
  by_cases c1 : w < l
  · rw [if_neg (by omega)] at hQ
    simp only [en_MO_qWordOf, e_MO_qWordOf_0, k_MO_qWordOf_0, e_MO_qWordOf_1, k_MO_qWordOf_1, e_MO_qWordOf_2, k_MO_qWordOf_2, rr, sh, Nat.reduceLT, Nat.reduceMul, Int.reduceToNat, Int.reduceGT, Int.reduceGE, Int.reduceNe, true_and, and_true, true_or, or_true, false_or, or_false, and_self, or_self, if_true, if_false, reduceIte, not_true_eq_false, not_false_eq_true, Int.reduceEq, Int.reduceNe, Int.reduceLT, Int.reduceLE, Int.reduceAdd, Int.reduceSub, Int.reduceMul, Int.reduceNeg, Nat.reduceAdd, Nat.reduceLeDiff, Nat.reduceEqDiff, ne_eq, List.length_cons, List.length_nil, Nat.reduceSub, q, c1]
    exact hQ
  · by_cases c2 : u ≤ w
    · rw [if_neg (by omega)] at hQ
      simp only [en_MO_qWordOf, e_MO_qWordOf_0, k_MO_qWordOf_0, e_MO_qWordOf_1, k_MO_qWordOf_1, e_MO_qWordOf_2, k_MO_qWordOf_2, rr, sh, Nat.reduceLT, Nat.reduceMul, Int.reduceToNat, Int.reduceGT, Int.reduceGE, Int.reduceNe, true_and, and_true, true_or, or_true, false_or, or_false, and_self, or_self, if_true, if_false, reduceIte, not_true_eq_false, not_false_eq_true, Int.reduceEq, Int.reduceNe, Int.reduceLT, Int.reduceLE, Int.reduceAdd, Int.reduceSub, Int.reduceMul, Int.reduceNeg, Nat.reduceAdd, Nat.reduceLeDiff, Nat.reduceEqDiff, ne_eq, List.length_cons, List.length_nil, Nat.reduceSub, q, c1, c2]
      exact hQ
    · rw [if_pos (by omega)] at hQ
      simp only [en_MO_qWordOf, e_MO_qWordOf_0, k_MO_qWordOf_0, e_MO_qWordOf_1, k_MO_qWordOf_1, e_MO_qWordOf_2, k_MO_qWordOf_2, rr, sh, Nat.reduceLT, Nat.reduceMul, Int.reduceToNat, Int.reduceGT, Int.reduceGE, Int.reduceNe, true_and, and_true, true_or, or_true, false_or, or_false, and_self, or_self, if_true, if_false, reduceIte, not_true_eq_false, not_false_eq_true, Int.reduceEq, Int.reduceNe, Int.reduceLT, Int.reduceLE, Int.reduceAdd, Int.reduceSub, Int.reduceMul, Int.reduceNeg, Nat.reduceAdd, Nat.reduceLeDiff, Nat.reduceEqDiff, ne_eq, List.length_cons, List.length_nil, Nat.reduceSub, q, c1, c2]
      exact hQ
end QX1
