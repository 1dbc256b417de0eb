/-! QUESTIONS: the reference's sums, whole -/
section QS1
variable {d : Nat} {V B : Hp} {Q : AV → Hp → Prop} {a : Nat} {j : Int} {C W : List Int} {o b : Nat}
def kS (d : Nat) (b : Int) (Q : AV → Hp → Prop) : Hp → Prop := fun H => R (d + 7) MO_qSums [x_lda 0, x_gi 5 11, x_ifne 2, x_lda 0, x_calv MO_qGoesOn 1 11, x_ifeq 2, x_ic 1, x_go 3] [va 71, vi b, vi 1] [] H Q
def lS (d : Nat) (b : Int) (Q : AV → Hp → Prop) : AV → Hp → Prop := fun r H => R (d + 7) MO_qSums [x_ifeq 2, x_ic 1, x_go 3] [va 71, vi b, vi 1] [r] H Q
def eS (d : Nat) (b : Int) (Q : AV → Hp → Prop) : Hp → Prop := fun H => R (d + 7) MO_qSums (blk MO_qSums 4) [va 71, vi b, vi 0] [] H Q
set_option maxRecDepth 20000 in
theorem kctxS {b : Int} : KCtx (d + 6) (kS d b Q) (lS d b Q) (eS d b Q) := by
  refine ⟨fun H h5 h => ?_, fun H h5 h => ?_, fun H h5 h => ?_, fun H h => ?_⟩
  · unfold kS
    simp only [rr, sh, Nat.reduceLT, Nat.reduceMul, Int.reduceToNat, Int.reduceGT, Int.reduceGE, Int.reduceNe, true_and, and_true, true_or, or_true, false_or, or_false, and_self, or_self, if_true, if_false, reduceIte, not_true_eq_false, not_false_eq_true, Int.reduceEq, Int.reduceNe, Int.reduceLT, Int.reduceLE, Int.reduceAdd, Int.reduceSub, Int.reduceMul, Int.reduceNeg, Nat.reduceAdd, Nat.reduceLeDiff, Nat.reduceEqDiff, ne_eq, List.length_cons, List.length_nil, Nat.reduceSub, h5]
    exact h
  · unfold kS
    unfold eS at h
    simp only [e_MO_qSums_2, k_MO_qSums_2, e_MO_qSums_3, k_MO_qSums_3, rr, sh, Nat.reduceLT, Nat.reduceMul, Int.reduceToNat, Int.reduceGT, Int.reduceGE, Int.reduceNe, true_and, and_true, true_or, or_true, false_or, or_false, and_self, or_self, if_true, if_false, reduceIte, not_true_eq_false, not_false_eq_true, Int.reduceEq, Int.reduceNe, Int.reduceLT, Int.reduceLE, Int.reduceAdd, Int.reduceSub, Int.reduceMul, Int.reduceNeg, Nat.reduceAdd, Nat.reduceLeDiff, Nat.reduceEqDiff, ne_eq, List.length_cons, List.length_nil, Nat.reduceSub, h5]
    rw [e_MO_qSums_1]
    simp only [k_MO_qSums_1, rr, sh, Nat.reduceLT, Nat.reduceMul, Int.reduceToNat, Int.reduceGT, Int.reduceGE, Int.reduceNe, true_and, and_true, true_or, or_true, false_or, or_false, and_self, or_self, if_true, if_false, reduceIte, not_true_eq_false, not_false_eq_true, Int.reduceEq, Int.reduceNe, Int.reduceLT, Int.reduceLE, Int.reduceAdd, Int.reduceSub, Int.reduceMul, Int.reduceNeg, Nat.reduceAdd, Nat.reduceLeDiff, Nat.reduceEqDiff, ne_eq, List.length_cons, List.length_nil, Nat.reduceSub]
    exact h
  · unfold lS
    simp only [e_MO_qSums_3, k_MO_qSums_3, rr, sh, Nat.reduceLT, Nat.reduceMul, Int.reduceToNat, Int.reduceGT, Int.reduceGE, Int.reduceNe, true_and, and_true, true_or, or_true, false_or, or_false, and_self, or_self, if_true, if_false, reduceIte, not_true_eq_false, not_false_eq_true, Int.reduceEq, Int.reduceNe, Int.reduceLT, Int.reduceLE, Int.reduceAdd, Int.reduceSub, Int.reduceMul, Int.reduceNeg, Nat.reduceAdd, Nat.reduceLeDiff, Nat.reduceEqDiff, ne_eq, List.length_cons, List.length_nil, Nat.reduceSub]
    rw [e_MO_qSums_1]
    simp only [k_MO_qSums_1, rr, sh, Nat.reduceLT, Nat.reduceMul, Int.reduceToNat, Int.reduceGT, Int.reduceGE, Int.reduceNe, true_and, and_true, true_or, or_true, false_or, or_false, and_self, or_self, if_true, if_false, reduceIte, not_true_eq_false, not_false_eq_true, Int.reduceEq, Int.reduceNe, Int.reduceLT, Int.reduceLE, Int.reduceAdd, Int.reduceSub, Int.reduceMul, Int.reduceNeg, Nat.reduceAdd, Nat.reduceLeDiff, Nat.reduceEqDiff, ne_eq, List.length_cons, List.length_nil, Nat.reduceSub, h5]
    refine CC_mn h (fun r H1 h1 => ?_)
    unfold kS at h1
    simp only [rr, sh, Nat.reduceLT, Nat.reduceMul, Int.reduceToNat, Int.reduceGT, Int.reduceGE, Int.reduceNe, true_and, and_true, true_or, or_true, false_or, or_false, and_self, or_self, if_true, if_false, reduceIte, not_true_eq_false, not_false_eq_true, Int.reduceEq, Int.reduceNe, Int.reduceLT, Int.reduceLE, Int.reduceAdd, Int.reduceSub, Int.reduceMul, Int.reduceNeg, Nat.reduceAdd, Nat.reduceLeDiff, Nat.reduceEqDiff, ne_eq, List.length_cons, List.length_nil, Nat.reduceSub] at h1
    exact h1
  · unfold lS
    unfold eS at h
    simp only [e_MO_qSums_2, k_MO_qSums_2, e_MO_qSums_3, k_MO_qSums_3, rr, sh, Nat.reduceLT, Nat.reduceMul, Int.reduceToNat, Int.reduceGT, Int.reduceGE, Int.reduceNe, true_and, and_true, true_or, or_true, false_or, or_false, and_self, or_self, if_true, if_false, reduceIte, not_true_eq_false, not_false_eq_true, Int.reduceEq, Int.reduceNe, Int.reduceLT, Int.reduceLE, Int.reduceAdd, Int.reduceSub, Int.reduceMul, Int.reduceNeg, Nat.reduceAdd, Nat.reduceLeDiff, Nat.reduceEqDiff, ne_eq, List.length_cons, List.length_nil, Nat.reduceSub]
    rw [e_MO_qSums_1]
    simp only [k_MO_qSums_1, rr, sh, Nat.reduceLT, Nat.reduceMul, Int.reduceToNat, Int.reduceGT, Int.reduceGE, Int.reduceNe, true_and, and_true, true_or, or_true, false_or, or_false, and_self, or_self, if_true, if_false, reduceIte, not_true_eq_false, not_false_eq_true, Int.reduceEq, Int.reduceNe, Int.reduceLT, Int.reduceLE, Int.reduceAdd, Int.reduceSub, Int.reduceMul, Int.reduceNeg, Nat.reduceAdd, Nat.reduceLeDiff, Nat.reduceEqDiff, ne_eq, List.length_cons, List.length_nil, Nat.reduceSub]
    exact h
set_option maxRecDepth 20000 in
theorem c_dropB (hT : TapeR V) (hPB : Ptr B) : ∀ (r : List Int) (C : List Int) (H : Hp), MQs V B H a j C (W ++ r.reverse) o W.length → (∀ H', MQs V B H' a j (C ++ r) W o b → Q vu H') → eS d b Q H
  | [], C, H, h, hQ => by
    rw [List.reverse_nil, List.append_nil] at h
    have := hQ _ (by rw [List.append_nil]; exact h.base (b' := b))
    have k5 := h.k5
    have w1 := h.2.2.1.1
    have b1 := h.2.2.2.2.1
    have c1 : (W.length : Int) ≤ (W.length : Int) := Int.le_refl _
    unfold eS
    rw [e_MO_qSums_4]
    simp only [k_MO_qSums_4, e_MO_qSums_5, k_MO_qSums_5, rr, sh, Nat.reduceLT, Nat.reduceMul, Int.reduceToNat, Int.reduceGT, Int.reduceGE, Int.reduceNe, true_and, and_true, true_or, or_true, false_or, or_false, and_self, or_self, if_true, if_false, reduceIte, not_true_eq_false, not_false_eq_true, Int.reduceEq, Int.reduceNe, Int.reduceLT, Int.reduceLE, Int.reduceAdd, Int.reduceSub, Int.reduceMul, Int.reduceNeg, Nat.reduceAdd, Nat.reduceLeDiff, Nat.reduceEqDiff, ne_eq, List.length_cons, List.length_nil, Nat.reduceSub, k5, w1, b1, c1]
    exact this
  | x :: r, C, H, h, hQ => by
    rw [rev_c] at h
    obtain ⟨t1, t2, t3, t4, -⟩ := wtop hT h
    have k5 := h.k5
    have b1 := h.2.2.2.2.1
    have c1 : ¬ (((W ++ r.reverse).length + 1 : Nat) : Int) ≤ (W.length : Int) := il_n (by rw [List.length_append]; omega)
    have ih := fun H' h' => c_dropB hT hPB r (C ++ [x]) H' h' (fun H2 h2 => hQ H2 (by rw [← app_c]; exact h2))
    clear hQ
    unfold eS at ih ⊢
    rw [e_MO_qSums_4]
    simp only [k_MO_qSums_4, rr, sh, Nat.reduceLT, Nat.reduceMul, Int.reduceToNat, Int.reduceGT, Int.reduceGE, Int.reduceNe, true_and, and_true, true_or, or_true, false_or, or_false, and_self, or_self, if_true, if_false, reduceIte, not_true_eq_false, not_false_eq_true, Int.reduceEq, Int.reduceNe, Int.reduceLT, Int.reduceLE, Int.reduceAdd, Int.reduceSub, Int.reduceMul, Int.reduceNeg, Nat.reduceAdd, Nat.reduceLeDiff, Nat.reduceEqDiff, ne_eq, List.length_cons, List.length_nil, Nat.reduceSub, k5, t1, b1, c1]
    exact c_qDrops hT hPB h (fun H' h' => ih H' h')
theorem erS {kk pl : Int} (hk : kk ≠ 0) (he : ∀ H', Fx sQM B H' → H' 71 5 = kk → H' 71 6 = pl → BdC H' → Q vu H') : ErQ B (eS d b Q) kk pl := by
  intro H' hF h5 h6 hb
  have nb : ¬ H' 71 5 = 0 := by rw [h5]; exact hk
  have := he (hs H' 71 92 b) (hF.hs (c := 71) (j := 92) rfl) ((hs2 (by decide)).trans h5) ((hs2 (by decide)).trans h6) (by unfold BdC at hb ⊢; rw [hs2 (by decide)]; exact hb)
  unfold eS
  rw [e_MO_qSums_4]
  simp only [k_MO_qSums_4, e_MO_qSums_5, k_MO_qSums_5, rr, sh, Nat.reduceLT, Nat.reduceMul, Int.reduceToNat, Int.reduceGT, Int.reduceGE, Int.reduceNe, true_and, and_true, true_or, or_true, false_or, or_false, and_self, or_self, if_true, if_false, reduceIte, not_true_eq_false, not_false_eq_true, Int.reduceEq, Int.reduceNe, Int.reduceLT, Int.reduceLE, Int.reduceAdd, Int.reduceSub, Int.reduceMul, Int.reduceNeg, Nat.reduceAdd, Nat.reduceLeDiff, Nat.reduceEqDiff, ne_eq, List.length_cons, List.length_nil, Nat.reduceSub, nb]
  exact this
theorem c_qSums (hT : TapeR V) (hPB : Ptr B) (hWB : Wds B) {out : QO} {H : Hp} (hR : RSum V a j o out) (hne : ∀ kk pl, out = .error (kk, pl) → kk ≠ 0) (hop : ∀ a' j' cs, out = .ok (a', j', cs) → ¬ bz V a' = 42 ∧ ¬ bz V a' = 47 ∧ ¬ bz V a' = 43 ∧ ¬ bz V a' = 45) (h : MQs V B H a j C W o b) (hw : tpN' W isOp)
    (he : ∀ kk pl, out = .error (kk, pl) → ∀ H', Fx sQM B H' → H' 71 5 = kk → H' 71 6 = pl → BdC H' → Q vu H')
    (hk : ∀ a' j' cs, out = .ok (a', j', cs) → ∀ H', MQs V B H' a' j' (C ++ cs.map rco) W o b → Q vu H') : CC (d + 7) MO_qSums [va 71] H Q := by
  have hb := h.base (b' := W.length)
  have k5 := hb.k5
  have w1 := h.2.2.1.1
  have b1 := h.2.2.2.2.1
  have pk := hR B d (kS d b Q) (lS d b Q) (eS d b Q) C W W.length hPB hWB kctxS (Nat.le_refl _) ⟨Or.inl rfl, fun _ => hw⟩ (fun kk pl z => erS (hne kk pl z) (he kk pl z)) (fun a' j' cs z cs1 s hm hs' => by
    obtain ⟨q1, q2, q3, q4⟩ := hop _ _ _ z
    refine g_end hT hPB kctxS (BrW.no rfl (fun x hx => op_nb (hs' x hx))) q1 q2 q3 q4 (fun H2 h2 => c_dropB hT hPB s _ H2 h2 (fun H3 h3 => hk _ _ _ z H3 ?_))
    rw [hm, ← List.append_assoc]
    exact h3) _ vu vu vu vu hb
  simp only [en_MO_qSums, e_MO_qSums_0, k_MO_qSums_0, rr, sh, Nat.reduceLT, Nat.reduceMul, Int.reduceToNat, Int.reduceGT, Int.reduceGE, Int.reduceNe, true_and, and_true, true_or, or_true, false_or, or_false, and_self, or_self, if_true, if_false, reduceIte, not_true_eq_false, not_false_eq_true, Int.reduceEq, Int.reduceNe, Int.reduceLT, Int.reduceLE, Int.reduceAdd, Int.reduceSub, Int.reduceMul, Int.reduceNeg, Nat.reduceAdd, Nat.reduceLeDiff, Nat.reduceEqDiff, ne_eq, List.length_cons, List.length_nil, Nat.reduceSub, w1, b1]
  rw [e_MO_qSums_1]
  simp only [k_MO_qSums_1, rr, sh, Nat.reduceLT, Nat.reduceMul, Int.reduceToNat, Int.reduceGT, Int.reduceGE, Int.reduceNe, true_and, and_true, true_or, or_true, false_or, or_false, and_self, or_self, if_true, if_false, reduceIte, not_true_eq_false, not_false_eq_true, Int.reduceEq, Int.reduceNe, Int.reduceLT, Int.reduceLE, Int.reduceAdd, Int.reduceSub, Int.reduceMul, Int.reduceNeg, Nat.reduceAdd, Nat.reduceLeDiff, Nat.reduceEqDiff, ne_eq, List.length_cons, List.length_nil, Nat.reduceSub, k5]
  have cc : CC (d + 6) MO_qPartTold [va 71] (hs H 71 92 W.length) (fun _ => kS d b Q) := by
    simp only [en_MO_qPartTold, e_MO_qPartTold_0, k_MO_qPartTold_0, rr, sh, Nat.reduceLT, Nat.reduceMul, Int.reduceToNat, Int.reduceGT, Int.reduceGE, Int.reduceNe, true_and, and_true, true_or, or_true, false_or, or_false, and_self, or_self, if_true, if_false, reduceIte, not_true_eq_false, not_false_eq_true, Int.reduceEq, Int.reduceNe, Int.reduceLT, Int.reduceLE, Int.reduceAdd, Int.reduceSub, Int.reduceMul, Int.reduceNeg, Nat.reduceAdd, Nat.reduceLeDiff, Nat.reduceEqDiff, ne_eq, List.length_cons, List.length_nil, Nat.reduceSub]
    exact pk
  refine CC_mn cc (fun r H1 h1 => ?_)
  unfold kS at h1
  simp only [rr, sh, Nat.reduceLT, Nat.reduceMul, Int.reduceToNat, Int.reduceGT, Int.reduceGE, Int.reduceNe, true_and, and_true, true_or, or_true, false_or, or_false, and_self, or_self, if_true, if_false, reduceIte, not_true_eq_false, not_false_eq_true, Int.reduceEq, Int.reduceNe, Int.reduceLT, Int.reduceLE, Int.reduceAdd, Int.reduceSub, Int.reduceMul, Int.reduceNeg, Nat.reduceAdd, Nat.reduceLeDiff, Nat.reduceEqDiff, ne_eq, List.length_cons, List.length_nil, Nat.reduceSub] at h1
  exact h1
end QS1
