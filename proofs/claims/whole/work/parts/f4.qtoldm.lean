/-! QUESTIONS: the reference's pile: codes told -/
section QV5
variable {d : Nat} {V H : Hp} {Q : AV → Hp → Prop} {s : List Int} {x i : Int}
theorem val_cg {V1 : Hp} (c : ∀ a : Int, 91 ≤ a → a ≤ 107 → V1 a = V a) : (∀ q b t, sww V1 q b t = sww V q b t) ∧ (∀ b t, offV V1 b t = offV V b t) ∧ (∀ b t, goodB V1 b t = goodB V b t) ∧ (∀ r t, stg V1 r t = stg V r t) ∧ nR V1 = nR V := by
  have e91 := c 91 (by decide) (by decide)
  have e92 := c 92 (by decide) (by decide)
  have e93 := c 93 (by decide) (by decide)
  have e96 := c 96 (by decide) (by decide)
  have e97 := c 97 (by decide) (by decide)
  have e99 := c 99 (by decide) (by decide)
  have e100 := c 100 (by decide) (by decide)
  have e101 := c 101 (by decide) (by decide)
  have e107 := c 107 (by decide) (by decide)
  have s1 : ∀ r t, stg V1 r t = stg V r t := fun r t => by unfold stg; rw [e96, e97]
  have s2 : ∀ q b t, sww V1 q b t = sww V q b t := fun q b t => by
    unfold sww frc lvr nS nN
    simp only [e91, e92, e93, e107, s1]
  have s3 : ∀ q b t, gapA V1 q b t = gapA V q b t := fun q b t => by unfold gapA; rw [s2, e101]
  have s4 : ∀ q, wnt V1 q = wnt V q := fun q => by unfold wnt; rw [e100]
  refine ⟨s2, fun b t => ?_, fun b t => ?_, s1, by unfold nR nN; rw [e91]⟩
  · unfold offV; simp only [s3, s4]
  · unfold goodB; simp only [s3, s4, e99]
/-- the reference at another stroke -/
theorem inm_at (hM : Inm V) (h0 : 0 ≤ i) (h9 : i ≤ 9999) : Inm (hs V 71 47 i) := by
  have c : ∀ a : Int, a ≠ 71 → hs V 71 47 i a = V a := fun a ha => hs_ne ha
  have d : ∀ j : Int, j ≠ 47 → hs V 71 47 i 71 j = V 71 j := fun j hj => hs2 (fun z => hj z.2)
  obtain ⟨h1, h2, h3⟩ := hM
  refine ⟨fun q hq => ?_, ?_, ?_⟩
  · have hs' : ptL.all (fun q => !(decide (q.1 = 71) && decide (q.2.1 = 47))) = true := by decide +kernel
    have := List.all_eq_true.mp hs' q hq
    rw [hs_app, if_neg (fun z => by rw [decide_eq_true z.1, decide_eq_true z.2] at this; cases this)]
    exact h1 q hq
  · unfold BoatM eaV nS nR nU nY nN at h2 ⊢
    simp only [c 91 (by decide), c 92 (by decide), c 93 (by decide), c 94 (by decide), c 96 (by decide), c 97 (by decide), c 98 (by decide), c 99 (by decide), c 100 (by decide), c 101 (by decide), c 103 (by decide), c 104 (by decide), c 105 (by decide), c 106 (by decide), d 46 (by decide)]
    exact h2
  · obtain ⟨-, q2, q3, q4, q5, q6⟩ := h3
    unfold CrewM sdV nS nR nN at *
    simp only [c 91 (by decide), c 96 (by decide), c 97 (by decide), c 107 (by decide), d 49 (by decide), d 57 (by decide), d 48 (by decide)]
    rw [hs_same]
    exact ⟨⟨h0, h9⟩, q2, q3, q4, q5, q6⟩
theorem hs_old {c j v : Int} : hs (hs H c j v) c j (H c j) = H := by
  funext a b
  rw [hs_app, hs_app]
  by_cases q : a = c ∧ b = j
  · rw [if_pos q, q.1, q.2]
  · rw [if_neg q, if_neg q]
theorem sd_lt (hM : Inm V) : sdV V < 4096 := Nat.lt_of_lt_of_le hM.crew.2.1.2 (Nat.le_trans (Nat.pow_le_pow_right (by decide) hM.boat.1.2) (by decide))
set_option maxRecDepth 20000 in
theorem q_offAtM (hM : Inm V) (hH : Vw V H) (h0 : 0 ≤ i) (h9 : i ≤ 9999) : CC (d + 4) MO_qOffAt [va 71, vi i] H Q = Q (vl (offV V (sdV V) i)) H := by
  refine CC_dt fun Q hQ => ?_
  have m := inm_at hM h0 h9
  have v : Vw (hs V 71 47 i) (hs H 71 47 i) := vw_both hH
  have e47 : H 71 47 = V 71 47 := hH 71 47 rfl
  have e49 : hs H 71 47 i 71 49 = (sdV V : Nat) := (hs2 (by decide)).trans ((hH 71 49 rfl).trans hM.crew.2.1.1)
  have eo : offV (hs V 71 47 i) (sdV V) (hs V 71 47 i 71 47) = offV V (sdV V) i := by rw [hs_same]; exact (val_cg (fun a h1 h2 => hs_ne (by omega))).2.1 _ _
  have ho := fun {Q} => q_offBy (d := d) (Q := Q) m v (sd_lt hM)
  rw [eo] at ho
  have back : hs (hs H 71 47 i) 71 47 (V 71 47) = H := by rw [← e47]; exact hs_old
  simp only [en_MO_qOffAt, e_MO_qOffAt_0, k_MO_qOffAt_0, rr, sh, Nat.reduceLT, Nat.reduceMul, Int.reduceToNat, Int.reduceGT, Int.reduceGE, Int.reduceNe, true_and, and_true, true_or, or_true, false_or, or_false, and_self, or_self, if_true, if_false, reduceIte, not_true_eq_false, not_false_eq_true, Int.reduceEq, Int.reduceNe, Int.reduceLT, Int.reduceLE, Int.reduceAdd, Int.reduceSub, Int.reduceMul, Int.reduceNeg, Nat.reduceAdd, Nat.reduceLeDiff, Nat.reduceEqDiff, ne_eq, List.length_cons, List.length_nil, Nat.reduceSub, e47, e49, ho, back]
  exact hQ
set_option maxRecDepth 20000 in
theorem q_goodAtM (hM : Inm V) (hH : Vw V H) (h0 : 0 ≤ i) (h9 : i ≤ 9999) : CC (d + 4) MO_qIsGoodAt [va 71, vi i] H Q = Q (vl (qGd V i)) H := by
  refine CC_dt fun Q hQ => ?_
  have m := inm_at hM h0 h9
  have v : Vw (hs V 71 47 i) (hs H 71 47 i) := vw_both hH
  have e47 : H 71 47 = V 71 47 := hH 71 47 rfl
  have e49 : hs H 71 47 i 71 49 = (sdV V : Nat) := (hs2 (by decide)).trans ((hH 71 49 rfl).trans hM.crew.2.1.1)
  have eo : goodB (hs V 71 47 i) (sdV V) (hs V 71 47 i 71 47) = goodB V (sdV V) i := by rw [hs_same]; exact (val_cg (fun a h1 h2 => hs_ne (by omega))).2.2.1 _ _
  have ho := fun {Q} => q_isGoodM (d := d) (Q := Q) m v (sd_lt hM)
  rw [eo] at ho
  have back : hs (hs H 71 47 i) 71 47 (V 71 47) = H := by rw [← e47]; exact hs_old
  unfold qGd at hQ
  by_cases g : goodB V (sdV V) i = true
  · rw [if_pos g] at ho hQ
    simp only [en_MO_qIsGoodAt, e_MO_qIsGoodAt_0, k_MO_qIsGoodAt_0, e_MO_qIsGoodAt_1, k_MO_qIsGoodAt_1, e_MO_qIsGoodAt_2, k_MO_qIsGoodAt_2, rr, sh, Nat.reduceLT, Nat.reduceMul, Int.reduceToNat, Int.reduceGT, Int.reduceGE, Int.reduceNe, true_and, and_true, true_or, or_true, false_or, or_false, and_self, or_self, if_true, if_false, reduceIte, not_true_eq_false, not_false_eq_true, Int.reduceEq, Int.reduceNe, Int.reduceLT, Int.reduceLE, Int.reduceAdd, Int.reduceSub, Int.reduceMul, Int.reduceNeg, Nat.reduceAdd, Nat.reduceLeDiff, Nat.reduceEqDiff, ne_eq, List.length_cons, List.length_nil, Nat.reduceSub, e47, e49, ho, back]
    exact hQ
  · rw [if_neg g] at ho hQ
    simp only [en_MO_qIsGoodAt, e_MO_qIsGoodAt_0, k_MO_qIsGoodAt_0, e_MO_qIsGoodAt_1, k_MO_qIsGoodAt_1, e_MO_qIsGoodAt_2, k_MO_qIsGoodAt_2, rr, sh, Nat.reduceLT, Nat.reduceMul, Int.reduceToNat, Int.reduceGT, Int.reduceGE, Int.reduceNe, true_and, and_true, true_or, or_true, false_or, or_false, and_self, or_self, if_true, if_false, reduceIte, not_true_eq_false, not_false_eq_true, Int.reduceEq, Int.reduceNe, Int.reduceLT, Int.reduceLE, Int.reduceAdd, Int.reduceSub, Int.reduceMul, Int.reduceNeg, Nat.reduceAdd, Nat.reduceLeDiff, Nat.reduceEqDiff, ne_eq, List.length_cons, List.length_nil, Nat.reduceSub, e47, e49, ho, back]
    exact hQ
end QV5
