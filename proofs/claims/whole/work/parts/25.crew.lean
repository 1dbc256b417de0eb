/-! the crew's reads -/
section CR
variable {d : Nat} {V H : Hp} {Q : AV → Hp → Prop}
theorem tdiv_nn {t : Int} (h0 : 0 ≤ t) : t.tdiv 10 = t / 10 := Int.tdiv_eq_ediv_of_nonneg h0
set_option maxRecDepth 20000 in
set_option maxHeartbeats 4000000 in
theorem q_strengthAt (hI : Inq V) (hH : Vw V H) {r t : Int} (ht : 0 ≤ t) (ht2 : t ≤ 100000) : CC (d + 1) CW_strengthAt [va 4, vi r, vi t] H Q = Q (vi (if 0 ≤ r ∧ r < nR V then stg V r t else 0)) H := by
  refine CC_det ?_
  have h1 := hI.plan.rowers
  by_cases hr : 0 ≤ r ∧ r < nR V
  · obtain ⟨k, rfl⟩ := Int.eq_ofNat_of_zero_le hr.1
    have hk : k < nR V := by omega
    have hn := hI.boat.r
    have e1 := hI.plan.str k hk
    have e2 := hI.plan.tire k hk
    have b1 := hI.boat.str k hk
    have b2 := hI.boat.tire k hk
    have hm : 0 ≤ V 97 (12 + k) * (t / 10) ∧ V 97 (12 + k) * (t / 10) ≤ 9 * 10000 := ⟨Int.mul_nonneg b2.1 (by omega), Int.mul_le_mul b2.2 (by omega) (by omega) (by omega)⟩
    have w1 : w32 (t.tdiv 10) = t / 10 := by rw [tdiv_nn ht]; exact w32_id (by omega) (by omega)
    have w2 : w32 (V 97 (12 + k) * (t / 10)) = V 97 (12 + k) * (t / 10) := w32_id (by omega) (by omega)
    have w3 : w32 (V 96 (12 + k) - V 97 (12 + k) * (t / 10)) = V 96 (12 + k) - V 97 (12 + k) * (t / 10) := w32_id (by omega) (by omega)
    have f := hH.f hI.ptr
    have g := pl_f hH hI.pp hI.ptr
    have d1 : ¬ (k : Int) < 0 := Int.not_lt.mpr hr.1
    simp only [en_CW_strengthAt, e_CW_strengthAt_0, k_CW_strengthAt_0, e_CW_strengthAt_1, k_CW_strengthAt_1, e_CW_strengthAt_2, k_CW_strengthAt_2, rr, sh, Nat.reduceLT, Nat.reduceMul, Int.reduceToNat, Int.reduceGT, Int.reduceGE, Int.reduceNe, true_and, and_true, true_or, or_true, false_or, or_false, and_self, or_self, if_true, if_false, reduceIte, not_true_eq_false, not_false_eq_true, Int.reduceEq, Int.reduceNe, Int.reduceLT, Int.reduceLE, Int.reduceAdd, Int.reduceSub, Int.reduceMul, Int.reduceNeg, Nat.reduceAdd, Nat.reduceLeDiff, Nat.reduceEqDiff, ne_eq, List.length_cons, List.length_nil, Nat.reduceSub, f, g, q_maxI, h1, hr, d1, e1, e2, w1, w2, w3]
    clear f g
    (repeat (refine And.intro (by omega) ?_))
    rfl
  · rw [if_neg hr]
    by_cases d1 : r < 0
    · have f := hH.f hI.ptr
      have g := pl_f hH hI.pp hI.ptr
      simp only [en_CW_strengthAt, e_CW_strengthAt_0, k_CW_strengthAt_0, e_CW_strengthAt_1, k_CW_strengthAt_1, rr, sh, Nat.reduceLT, Nat.reduceMul, Int.reduceToNat, Int.reduceGT, Int.reduceGE, Int.reduceNe, true_and, and_true, true_or, or_true, false_or, or_false, and_self, or_self, if_true, if_false, reduceIte, not_true_eq_false, not_false_eq_true, Int.reduceEq, Int.reduceNe, Int.reduceLT, Int.reduceLE, Int.reduceAdd, Int.reduceSub, Int.reduceMul, Int.reduceNeg, Nat.reduceAdd, Nat.reduceLeDiff, Nat.reduceEqDiff, ne_eq, List.length_cons, List.length_nil, Nat.reduceSub, f, g, h1, d1]
    · have d2 : ¬ r < (nR V : Int) := by omega
      have f := hH.f hI.ptr
      have g := pl_f hH hI.pp hI.ptr
      simp only [en_CW_strengthAt, e_CW_strengthAt_0, k_CW_strengthAt_0, e_CW_strengthAt_1, k_CW_strengthAt_1, rr, sh, Nat.reduceLT, Nat.reduceMul, Int.reduceToNat, Int.reduceGT, Int.reduceGE, Int.reduceNe, true_and, and_true, true_or, or_true, false_or, or_false, and_self, or_self, if_true, if_false, reduceIte, not_true_eq_false, not_false_eq_true, Int.reduceEq, Int.reduceNe, Int.reduceLT, Int.reduceLE, Int.reduceAdd, Int.reduceSub, Int.reduceMul, Int.reduceNeg, Nat.reduceAdd, Nat.reduceLeDiff, Nat.reduceEqDiff, ne_eq, List.length_cons, List.length_nil, Nat.reduceSub, f, g, h1, d1, d2]
set_option maxRecDepth 20000 in
set_option maxHeartbeats 4000000 in
theorem q_forceIn (hI : Inq V) (hH : Vw V H) {k : Nat} {t : Int} (hk : k < nS V) (ht : 0 ≤ t) (ht2 : t ≤ 100000) : CC (d + 2) CW_forceIn [va 4, vi k, vi t] H Q = Q (vi (frc V k t)) H := by
  refine CC_det ?_
  have h1 := hI.plan.seats
  have hn := hI.boat.s
  have hs := hI.crew.sits k (by omega)
  have e1 := hI.cc.sits k (by omega)
  have c1 : 0 ≤ (k : Int) ∧ (k : Int) < nS V := ⟨by omega, by omega⟩
  have f := hH.f hI.ptr
  have g := pl_f hH hI.pp hI.ptr
  simp only [en_CW_forceIn, e_CW_forceIn_0, k_CW_forceIn_0, e_CW_forceIn_1, k_CW_forceIn_1, e_CW_forceIn_2, k_CW_forceIn_2, rr, sh, Nat.reduceLT, Nat.reduceMul, Int.reduceToNat, Int.reduceGT, Int.reduceGE, Int.reduceNe, true_and, and_true, true_or, or_true, false_or, or_false, and_self, or_self, if_true, if_false, reduceIte, not_true_eq_false, not_false_eq_true, Int.reduceEq, Int.reduceNe, Int.reduceLT, Int.reduceLE, Int.reduceAdd, Int.reduceSub, Int.reduceMul, Int.reduceNeg, Nat.reduceAdd, Nat.reduceLeDiff, Nat.reduceEqDiff, ne_eq, List.length_cons, List.length_nil, Nat.reduceSub, f, g, q_isSeat, h1, c1, ite10_0, e1, q_strengthAt hI hH ht ht2]
  clear f g
  (repeat (refine And.intro (by omega) ?_))
  unfold frc
  by_cases h : V 107 k = -1
  · rw [if_pos h, if_neg (by omega)]
  · rw [if_neg h, if_pos (by omega)]
set_option maxRecDepth 20000 in
set_option maxHeartbeats 4000000 in
theorem q_leverOf (hI : Inq V) (hH : Vw V H) {q k : Nat} (hq : q < 4) (hk : k < nS V) : CC (d + 1) PL_leverOf [va (V 4 0), vi q, vi k] H Q = Q (vl (lvr V q k)) H := by
  refine CC_det ?_
  have h1 := hI.plan.seats
  have hn := hI.boat.s
  have d1 : ¬ (q : Int) < 0 := by omega
  have d2 : ¬ (4 : Int) ≤ (q : Int) := by omega
  have d3 : ¬ (k : Int) < 0 := by omega
  have d4 : ¬ (nS V : Int) ≤ (k : Int) := by omega
  have e1 := hI.plan.lever q k hq hk
  have w1 : w32 (w32 ((q : Int) * 12) + k) = 12 * q + k := by rw [w32_id (x := (q : Int) * 12) (by omega) (by omega), w32_id (by omega) (by omega)]; omega
  have f := hH.f hI.ptr
  have g := pl_f hH hI.pp hI.ptr
  simp only [en_PL_leverOf, e_PL_leverOf_0, k_PL_leverOf_0, e_PL_leverOf_1, k_PL_leverOf_1, e_PL_leverOf_2, k_PL_leverOf_2, e_PL_leverOf_3, k_PL_leverOf_3, e_PL_leverOf_4, k_PL_leverOf_4, rr, sh, Nat.reduceLT, Nat.reduceMul, Int.reduceToNat, Int.reduceGT, Int.reduceGE, Int.reduceNe, true_and, and_true, true_or, or_true, false_or, or_false, and_self, or_self, if_true, if_false, reduceIte, not_true_eq_false, not_false_eq_true, Int.reduceEq, Int.reduceNe, Int.reduceLT, Int.reduceLE, Int.reduceAdd, Int.reduceSub, Int.reduceMul, Int.reduceNeg, Nat.reduceAdd, Nat.reduceLeDiff, Nat.reduceEqDiff, ne_eq, List.length_cons, List.length_nil, Nat.reduceSub, f, g, h1, d1, d2, d3, d4, w1, e1]
  clear f g
  (repeat (refine And.intro (by omega) ?_))
  rfl
set_option maxRecDepth 20000 in
set_option maxHeartbeats 4000000 in
theorem q_leverToSide (hI : Inq V) (hH : Vw V H) {q k : Nat} (hq : q < 4) (hk : k < nS V) : CC (d + 2) CW_leverToSide [va 4, vi q, vi k] H Q = Q (vl (if (sdV V).testBit k then lvr V q k else w64 (-lvr V q k))) H := by
  refine CC_det ?_
  have h1 := hI.plan.seats
  have hn := hI.boat.s
  have c1 : 0 ≤ (k : Int) ∧ (k : Int) < nS V := ⟨by omega, by omega⟩
  have e1 := hI.cc.right k hk
  have f := hH.f hI.ptr
  have g := pl_f hH hI.pp hI.ptr
  simp only [en_CW_leverToSide, e_CW_leverToSide_0, k_CW_leverToSide_0, e_CW_leverToSide_1, k_CW_leverToSide_1, e_CW_leverToSide_2, k_CW_leverToSide_2, e_CW_leverToSide_3, k_CW_leverToSide_3, rr, sh, Nat.reduceLT, Nat.reduceMul, Int.reduceToNat, Int.reduceGT, Int.reduceGE, Int.reduceNe, true_and, and_true, true_or, or_true, false_or, or_false, and_self, or_self, if_true, if_false, reduceIte, not_true_eq_false, not_false_eq_true, Int.reduceEq, Int.reduceNe, Int.reduceLT, Int.reduceLE, Int.reduceAdd, Int.reduceSub, Int.reduceMul, Int.reduceNeg, Nat.reduceAdd, Nat.reduceLeDiff, Nat.reduceEqDiff, ne_eq, List.length_cons, List.length_nil, Nat.reduceSub, f, g, q_isSeat, h1, c1, ite10_0, ite10_1, q_leverOf hI hH hq hk, e1]
  clear f g
  (repeat (refine And.intro (by omega) ?_))
  by_cases hb : (sdV V).testBit k = true <;> simp [hb]
set_option maxRecDepth 20000 in
set_option maxHeartbeats 4000000 in
theorem q_swingAt (hI : Inq V) (hH : Vw V H) {q : Nat} {t : Int} (hq : q < 4) (ht : 0 ≤ t) (ht2 : t ≤ 100000) : CC (d + 3) CW_swingAt [va 4, vi q, vi t] H Q = Q (vl (w64 (sww V q (sdV V) t))) H := by
  have h1 := hI.plan.seats
  have hn := hI.boat.s
  refine CC_det ?_
  simp only [en_CW_swingAt, e_CW_swingAt_0, k_CW_swingAt_0, rr, sh, Nat.reduceLT, Nat.reduceMul, Int.reduceToNat, Int.reduceGT, Int.reduceGE, Int.reduceNe, true_and, and_true, true_or, or_true, false_or, or_false, and_self, or_self, if_true, if_false, reduceIte, not_true_eq_false, not_false_eq_true, Int.reduceEq, Int.reduceNe, Int.reduceLT, Int.reduceLE, Int.reduceAdd, Int.reduceSub, Int.reduceMul, Int.reduceNeg, Nat.reduceAdd, Nat.reduceLeDiff, Nat.reduceEqDiff, ne_eq, List.length_cons, List.length_nil, Nat.reduceSub]
  refine up_nat (P := fun k => R (d + 3) CW_swingAt (blk CW_swingAt 1) [va 4, vi q, vi t, vl (w64 (sumI (fun k => sgn ((sdV V).testBit k) (frc V k t * lvr V q k)) k)), vu, vi k] [] H (fun r1 H1 => r1 = vl (w64 (sww V q (sdV V) t)) ∧ H1 = H)) ?_ ?_ 0 (Nat.zero_le (nS V))
  · rw [e_CW_swingAt_1]
    have f := hH.f hI.ptr
    have g := pl_f hH hI.pp hI.ptr
    simp only [k_CW_swingAt_1, en_CW_swingAt, e_CW_swingAt_0, k_CW_swingAt_0, e_CW_swingAt_2, k_CW_swingAt_2, rr, sh, Nat.reduceLT, Nat.reduceMul, Int.reduceToNat, Int.reduceGT, Int.reduceGE, Int.reduceNe, true_and, and_true, true_or, or_true, false_or, or_false, and_self, or_self, if_true, if_false, reduceIte, not_true_eq_false, not_false_eq_true, Int.reduceEq, Int.reduceNe, Int.reduceLT, Int.reduceLE, Int.reduceAdd, Int.reduceSub, Int.reduceMul, Int.reduceNeg, Nat.reduceAdd, Nat.reduceLeDiff, Nat.reduceEqDiff, ne_eq, List.length_cons, List.length_nil, Nat.reduceSub, f, g, h1, Int.le_refl]
    clear f g
    rfl
  · intro k hk ih
    have c1 : ¬ (nS V : Int) ≤ k := by omega
    rw [e_CW_swingAt_1]
    have f := hH.f hI.ptr
    have g := pl_f hH hI.pp hI.ptr
    simp only [k_CW_swingAt_1, en_CW_swingAt, e_CW_swingAt_0, k_CW_swingAt_0, e_CW_swingAt_2, k_CW_swingAt_2, rr, sh, Nat.reduceLT, Nat.reduceMul, Int.reduceToNat, Int.reduceGT, Int.reduceGE, Int.reduceNe, true_and, and_true, true_or, or_true, false_or, or_false, and_self, or_self, if_true, if_false, reduceIte, not_true_eq_false, not_false_eq_true, Int.reduceEq, Int.reduceNe, Int.reduceLT, Int.reduceLE, Int.reduceAdd, Int.reduceSub, Int.reduceMul, Int.reduceNeg, Nat.reduceAdd, Nat.reduceLeDiff, Nat.reduceEqDiff, ne_eq, List.length_cons, List.length_nil, Nat.reduceSub, f, g, h1, c1, q_forceIn hI hH hk ht ht2, q_leverToSide hI hH hq hk, w32_s (show k < 2147483647 by omega)]
    clear f g
    refine R_cg ih ?_ rfl
    show [va 4, vi q, vi t, vl _, vu, _] = [va 4, vi q, vi t, vl _, vu, _]
    congr 5
    show _ = w64 (_ + sgn _ _)
    unfold sgn
    by_cases hb : (sdV V).testBit k = true
    · simp only [hb, if_true, w64_al, w64_ar]
    · simp only [hb, if_false, w64_al, w64_ar, w64_mr, Int.mul_neg, Bool.false_eq_true]
end CR
