/-! THE LAW's loop, but for the calls text and ask (given as premises) -/
set_option maxRecDepth 20000 in
theorem lw_b36 {d : Nat} {V : Hp} {i : Int} {Q : AV → Hp → Prop} (hI : Inv0 V) (h : Scr V i) (hn : LwN (d + 41) V i Q) : R (d + 41) LW_law (blk LW_law 36) [va 999, va 1, va 71, vi i] [] V Q := by
  have i0 := h.i0
  have i6 := h.i6
  have hi : i ≤ 3072 := Int.le_trans (by omega) h.mx
  by_cases c : V 999 (i + 2) = 0
  · skip
    simp only [e_LW_law_36, k_LW_law_36, e_LW_law_37, k_LW_law_37, e_LW_law_38, k_LW_law_38, rr, sh, Nat.reduceLT, Nat.reduceMul, Int.reduceToNat, Int.reduceGT, Int.reduceGE, Int.reduceNe, true_and, and_true, true_or, or_true, false_or, or_false, and_self, or_self, if_true, if_false, reduceIte, not_true_eq_false, not_false_eq_true, Int.reduceEq, Int.reduceNe, Int.reduceLT, Int.reduceLE, Int.reduceAdd, Int.reduceSub, Int.reduceMul, Int.reduceNeg, Nat.reduceAdd, Nat.reduceLeDiff, Nat.reduceEqDiff, ne_eq, List.length_cons, List.length_nil, Nat.reduceSub, w32_lw (k := 1) i0 hi (by decide) (by decide), w32_lw (k := 2) i0 hi (by decide) (by decide), (show 0 ≤ i + 1 by omega), (show i + 1 < V 0 1 by omega), (show 0 ≤ i + 2 by omega), (show i + 2 < V 0 1 by omega), c]
    refine pair_l (p_apart hI false) (by decide) (by decide) (by decide +kernel) ?_
    intro x H1 hF h2
    have hz := hF.z
    have hs := hF.s
    simp only [e_LW_law_38, k_LW_law_38, e_LW_law_39, k_LW_law_39, e_LW_law_40, k_LW_law_40, rr, sh, Nat.reduceLT, Nat.reduceMul, Int.reduceToNat, Int.reduceGT, Int.reduceGE, Int.reduceNe, true_and, and_true, true_or, or_true, false_or, or_false, and_self, or_self, if_true, if_false, reduceIte, not_true_eq_false, not_false_eq_true, Int.reduceEq, Int.reduceNe, Int.reduceLT, Int.reduceLE, Int.reduceAdd, Int.reduceSub, Int.reduceMul, Int.reduceNeg, Nat.reduceAdd, Nat.reduceLeDiff, Nat.reduceEqDiff, ne_eq, List.length_cons, List.length_nil, Nat.reduceSub, hz, hs, w32_lw (k := 1) i0 hi (by decide) (by decide), w32_lw (k := 2) i0 hi (by decide) (by decide), (show 0 ≤ i + 1 by omega), (show i + 1 < V 0 1 by omega), (show 0 ≤ i + 2 by omega), (show i + 2 < V 0 1 by omega), c]
    refine CC_mn h2 ?_
    rintro r2 H2 ⟨hF2, rfl, hI2⟩
    simp only [rr, sh, Nat.reduceLT, Nat.reduceMul, Int.reduceToNat, Int.reduceGT, Int.reduceGE, Int.reduceNe, true_and, and_true, true_or, or_true, false_or, or_false, and_self, or_self, if_true, if_false, reduceIte, not_true_eq_false, not_false_eq_true, Int.reduceEq, Int.reduceNe, Int.reduceLT, Int.reduceLE, Int.reduceAdd, Int.reduceSub, Int.reduceMul, Int.reduceNeg, Nat.reduceAdd, Nat.reduceLeDiff, Nat.reduceEqDiff, ne_eq, List.length_cons, List.length_nil, Nat.reduceSub, cmp3_s, e_LW_law_46, k_LW_law_46, w32_lw (k := 6) i0 hi (by decide) (by decide)]
    exact hn H2 hI2 hF2
  · skip
    simp only [e_LW_law_36, k_LW_law_36, e_LW_law_37, k_LW_law_37, e_LW_law_38, k_LW_law_38, rr, sh, Nat.reduceLT, Nat.reduceMul, Int.reduceToNat, Int.reduceGT, Int.reduceGE, Int.reduceNe, true_and, and_true, true_or, or_true, false_or, or_false, and_self, or_self, if_true, if_false, reduceIte, not_true_eq_false, not_false_eq_true, Int.reduceEq, Int.reduceNe, Int.reduceLT, Int.reduceLE, Int.reduceAdd, Int.reduceSub, Int.reduceMul, Int.reduceNeg, Nat.reduceAdd, Nat.reduceLeDiff, Nat.reduceEqDiff, ne_eq, List.length_cons, List.length_nil, Nat.reduceSub, w32_lw (k := 1) i0 hi (by decide) (by decide), w32_lw (k := 2) i0 hi (by decide) (by decide), (show 0 ≤ i + 1 by omega), (show i + 1 < V 0 1 by omega), (show 0 ≤ i + 2 by omega), (show i + 2 < V 0 1 by omega), c]
    refine pair_l (p_apart hI true) (by decide) (by decide) (by decide +kernel) ?_
    intro x H1 hF h2
    have hz := hF.z
    have hs := hF.s
    simp only [e_LW_law_38, k_LW_law_38, e_LW_law_39, k_LW_law_39, e_LW_law_40, k_LW_law_40, rr, sh, Nat.reduceLT, Nat.reduceMul, Int.reduceToNat, Int.reduceGT, Int.reduceGE, Int.reduceNe, true_and, and_true, true_or, or_true, false_or, or_false, and_self, or_self, if_true, if_false, reduceIte, not_true_eq_false, not_false_eq_true, Int.reduceEq, Int.reduceNe, Int.reduceLT, Int.reduceLE, Int.reduceAdd, Int.reduceSub, Int.reduceMul, Int.reduceNeg, Nat.reduceAdd, Nat.reduceLeDiff, Nat.reduceEqDiff, ne_eq, List.length_cons, List.length_nil, Nat.reduceSub, hz, hs, w32_lw (k := 1) i0 hi (by decide) (by decide), w32_lw (k := 2) i0 hi (by decide) (by decide), (show 0 ≤ i + 1 by omega), (show i + 1 < V 0 1 by omega), (show 0 ≤ i + 2 by omega), (show i + 2 < V 0 1 by omega), c]
    refine CC_mn h2 ?_
    rintro r2 H2 ⟨hF2, rfl, hI2⟩
    simp only [rr, sh, Nat.reduceLT, Nat.reduceMul, Int.reduceToNat, Int.reduceGT, Int.reduceGE, Int.reduceNe, true_and, and_true, true_or, or_true, false_or, or_false, and_self, or_self, if_true, if_false, reduceIte, not_true_eq_false, not_false_eq_true, Int.reduceEq, Int.reduceNe, Int.reduceLT, Int.reduceLE, Int.reduceAdd, Int.reduceSub, Int.reduceMul, Int.reduceNeg, Nat.reduceAdd, Nat.reduceLeDiff, Nat.reduceEqDiff, ne_eq, List.length_cons, List.length_nil, Nat.reduceSub, cmp3_s, e_LW_law_46, k_LW_law_46, w32_lw (k := 6) i0 hi (by decide) (by decide)]
    exact hn H2 hI2 hF2
theorem ite_pp {c : Prop} [Decidable c] {A B : Prop} (h1 : A) (h2 : B) : if c then A else B := by
  split
  · exact h1
  · exact h2
set_option maxRecDepth 20000 in
theorem lw_loop {d : Nat} {V : Hp} {Q : AV → Hp → Prop} (h0 : 0 ≤ V 0 1) (hm : V 0 1 ≤ 3072) (hx : ∀ j, V 999 j < 2147483648) (pt : ∀ V, Inv0 V → Pair V (d + 40) EO_text MO_text [va 1] [va 71]) (pa : ∀ V, Inv0 V → Pair V (d + 40) EO_ask MO_ask [va 1] [va 71]) (hQ : ∀ H, Fr V H → Q (vi 1) H) : ∀ (n : Nat) (i : Int), 0 ≤ i → V 0 1 < i + n → ∀ H, Inv0 H → Fr V H → R (d + 41) LW_law (blk LW_law 1) [va 999, va 1, va 71, vi i] [] H Q := by
  intro n
  induction n with
  | zero =>
    intro i i0 hn H hI hF
    have hz := hF.z
    have hs := hF.s
    rw [e_LW_law_1]
    simp only [k_LW_law_1, rr, sh, Nat.reduceLT, Nat.reduceMul, Int.reduceToNat, Int.reduceGT, Int.reduceGE, Int.reduceNe, true_and, and_true, true_or, or_true, false_or, or_false, and_self, or_self, if_true, if_false, reduceIte, not_true_eq_false, not_false_eq_true, Int.reduceEq, Int.reduceNe, Int.reduceLT, Int.reduceLE, Int.reduceAdd, Int.reduceSub, Int.reduceMul, Int.reduceNeg, Nat.reduceAdd, Nat.reduceLeDiff, Nat.reduceEqDiff, ne_eq, List.length_cons, List.length_nil, Nat.reduceSub, hz, w32_id (x := V 0 1 - 6) (by omega) (by omega), show V 0 1 - 6 < i by omega, e_LW_law_47, k_LW_law_47, show ((1 : Int) = 0 ∨ (1 : Int) = 1) from Or.inr rfl]
    exact hQ H hF
  | succ n ih =>
    intro i i0 hn H hI hF
    have hz := hF.z
    have hs := hF.s
    rw [e_LW_law_1]
    by_cases c : V 0 1 - 6 < i
    · simp only [k_LW_law_1, rr, sh, Nat.reduceLT, Nat.reduceMul, Int.reduceToNat, Int.reduceGT, Int.reduceGE, Int.reduceNe, true_and, and_true, true_or, or_true, false_or, or_false, and_self, or_self, if_true, if_false, reduceIte, not_true_eq_false, not_false_eq_true, Int.reduceEq, Int.reduceNe, Int.reduceLT, Int.reduceLE, Int.reduceAdd, Int.reduceSub, Int.reduceMul, Int.reduceNeg, Nat.reduceAdd, Nat.reduceLeDiff, Nat.reduceEqDiff, ne_eq, List.length_cons, List.length_nil, Nat.reduceSub, hz, w32_id (x := V 0 1 - 6) (by omega) (by omega), c, e_LW_law_47, k_LW_law_47, show ((1 : Int) = 0 ∨ (1 : Int) = 1) from Or.inr rfl]
      exact hQ H hF
    · have hS : Scr H i := ⟨i0, by rw [hz]; omega, by rw [hz]; exact hm, by rw [hs]; exact hx⟩
      have hn2 : LwN (d + 41) H i Q := fun H2 hI2 hF2 => ih (i + 6) (by omega) (by push_cast at hn; omega) H2 hI2 (hF.trans hF2)
      simp only [k_LW_law_1, rr, sh, Nat.reduceLT, Nat.reduceMul, Int.reduceToNat, Int.reduceGT, Int.reduceGE, Int.reduceNe, true_and, and_true, true_or, or_true, false_or, or_false, and_self, or_self, if_true, if_false, reduceIte, not_true_eq_false, not_false_eq_true, Int.reduceEq, Int.reduceNe, Int.reduceLT, Int.reduceLE, Int.reduceAdd, Int.reduceSub, Int.reduceMul, Int.reduceNeg, Nat.reduceAdd, Nat.reduceLeDiff, Nat.reduceEqDiff, ne_eq, List.length_cons, List.length_nil, Nat.reduceSub, hz, hs, w32_id (x := V 0 1 - 6) (by omega) (by omega), c, i0, show i < V 0 1 by omega]
      generalize b_and (V 999 i) 63 = z
      refine ite_pp (lw_b2 hI hS hn2) ?_
      refine ite_pp (lw_b3 hI hS hn2) ?_
      refine ite_pp (lw_b4 hI hS hn2 (pt H hI)) ?_
      refine ite_pp (lw_b5 hI hS hn2) ?_
      refine ite_pp (lw_b6 hI hS hn2) ?_
      refine ite_pp (lw_b7 hI hS hn2) ?_
      refine ite_pp (lw_b8 hI hS hn2) ?_
      refine ite_pp (lw_b9 hI hS hn2) ?_
      refine ite_pp (lw_b10 hI hS hn2) ?_
      refine ite_pp (lw_b11 hI hS hn2) ?_
      refine ite_pp (lw_b12 hI hS hn2) ?_
      refine ite_pp (lw_b13 hI hS hn2) ?_
      refine ite_pp (lw_b14 hI hS hn2) ?_
      refine ite_pp (lw_b15 hI hS hn2) ?_
      refine ite_pp (lw_b16 hI hS hn2) ?_
      refine ite_pp (lw_b17 hI hS hn2) ?_
      refine ite_pp (lw_b18 hI hS hn2) ?_
      refine ite_pp (lw_b19 hI hS hn2) ?_
      refine ite_pp (lw_b20 hI hS hn2) ?_
      refine ite_pp (lw_b21 hI hS hn2) ?_
      refine ite_pp (lw_b22 hI hS hn2) ?_
      refine ite_pp (lw_b23 hI hS hn2) ?_
      refine ite_pp (lw_b24 hI hS hn2) ?_
      refine ite_pp (lw_b25 hI hS hn2) ?_
      refine ite_pp (lw_b26 hI hS hn2) ?_
      refine ite_pp (lw_b27 hI hS hn2) ?_
      refine ite_pp (lw_b28 hI hS hn2) ?_
      refine ite_pp (lw_b29 hI hS hn2) ?_
      refine ite_pp (lw_b30 hI hS hn2) ?_
      refine ite_pp (lw_b31 hI hS hn2) ?_
      refine ite_pp (lw_b32 hI hS hn2) ?_
      refine ite_pp (lw_b33 hI hS hn2) ?_
      refine ite_pp (lw_b34 hI hS hn2) ?_
      refine ite_pp (lw_b35 hI hS hn2) ?_
      refine ite_pp (lw_b36 hI hS hn2) ?_
      refine ite_pp (lw_b41 hI hS hn2 (pa H hI)) ?_
      refine ite_pp (lw_b42 hI hS hn2) ?_
      refine ite_pp (lw_b43 hI hS hn2) ?_
      refine ite_pp (lw_b44 hI hS hn2) ?_
      refine ite_pp (lw_b45 hI hS hn2) ?_
      simp only [e_LW_law_46, k_LW_law_46, rr, sh, Nat.reduceLT, Nat.reduceMul, Int.reduceToNat, Int.reduceGT, Int.reduceGE, Int.reduceNe, true_and, and_true, true_or, or_true, false_or, or_false, and_self, or_self, if_true, if_false, reduceIte, not_true_eq_false, not_false_eq_true, Int.reduceEq, Int.reduceNe, Int.reduceLT, Int.reduceLE, Int.reduceAdd, Int.reduceSub, Int.reduceMul, Int.reduceNeg, Nat.reduceAdd, Nat.reduceLeDiff, Nat.reduceEqDiff, ne_eq, List.length_cons, List.length_nil, Nat.reduceSub, w32_lw (k := 6) i0 (show i ≤ 3072 by omega) (by decide) (by decide)]
      exact hn2 H hI Fr.refl
