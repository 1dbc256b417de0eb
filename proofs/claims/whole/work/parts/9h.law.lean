/-! THE LAW's blocks: each of the calls, class and reference, and on to the next row of the script -/
theorem cmp3_s {x : Int} : cmp3 x x = 0 := by
  unfold cmp3
  rw [if_neg (Int.lt_irrefl x), if_pos rfl]
def Scr (V : Hp) (i : Int) : Prop := 0 ≤ i ∧ i + 6 ≤ V 0 1 ∧ V 0 1 ≤ 3072 ∧ ∀ j, V 999 j < 2147483648
theorem Scr.i0 {V : Hp} {i : Int} (h : Scr V i) : 0 ≤ i := h.1
theorem Scr.i6 {V : Hp} {i : Int} (h : Scr V i) : i + 6 ≤ V 0 1 := h.2.1
theorem Scr.mx {V : Hp} {i : Int} (h : Scr V i) : V 0 1 ≤ 3072 := h.2.2.1
theorem Scr.sm {V : Hp} {i : Int} (h : Scr V i) : ∀ j, V 999 j < 2147483648 := h.2.2.2
def LwN (d : Nat) (V : Hp) (i : Int) (Q : AV → Hp → Prop) : Prop := ∀ H, Inv0 H → Fr V H → R d LW_law (blk LW_law 1) [va 999, va 1, va 71, vi (i + 6)] [] H Q
theorem Fr.s {V H : Hp} (h : Fr V H) : H 999 = V 999 := h 999 (Or.inr (by decide))
theorem Fr.z {V H : Hp} (h : Fr V H) : H 0 = V 0 := h 0 (Or.inl (by decide))
theorem w32_lw {i k : Int} (h : 0 ≤ i) (h2 : i ≤ 3072) (hk : 0 ≤ k) (hk2 : k ≤ 6) : w32 (i + k) = i + k := w32_id (by omega) (by omega)
set_option maxRecDepth 20000 in
theorem lw_b3 {d : Nat} {V : Hp} {i : Int} {Q : AV → Hp → Prop} (hI : Inv0 V) (h : Scr V i) (hn : LwN (d + 41) V i Q) : R (d + 41) LW_law (blk LW_law 3) [va 999, va 1, va 71, vi i] [] V Q := by
  have i0 := h.i0
  have i6 := h.i6
  have hi : i ≤ 3072 := Int.le_trans (by omega) h.mx
  simp only [e_LW_law_3, k_LW_law_3, rr, sh, Nat.reduceLT, Nat.reduceMul, Int.reduceToNat, Int.reduceGT, Int.reduceGE, Int.reduceNe, true_and, and_true, true_or, or_true, false_or, or_false, and_self, or_self, if_true, if_false, reduceIte, not_true_eq_false, not_false_eq_true, Int.reduceEq, Int.reduceNe, Int.reduceLT, Int.reduceLE, Int.reduceAdd, Int.reduceSub, Int.reduceMul, Int.reduceNeg, Nat.reduceAdd, Nat.reduceLeDiff, Nat.reduceEqDiff, ne_eq, List.length_cons, List.length_nil, Nat.reduceSub, w32_lw (k := 1) h.i0 hi (by decide) (by decide), (show 0 ≤ i + 1 by omega), (show i + 1 < V 0 1 by omega)]
  refine pair_i (p_end hI) (by decide) (by decide) (by decide +kernel) ?_
  intro x H1 hF h2
  have hz := hF.z
  have hs := hF.s
  simp only [rr, sh, Nat.reduceLT, Nat.reduceMul, Int.reduceToNat, Int.reduceGT, Int.reduceGE, Int.reduceNe, true_and, and_true, true_or, or_true, false_or, or_false, and_self, or_self, if_true, if_false, reduceIte, not_true_eq_false, not_false_eq_true, Int.reduceEq, Int.reduceNe, Int.reduceLT, Int.reduceLE, Int.reduceAdd, Int.reduceSub, Int.reduceMul, Int.reduceNeg, Nat.reduceAdd, Nat.reduceLeDiff, Nat.reduceEqDiff, ne_eq, List.length_cons, List.length_nil, Nat.reduceSub, hz, hs, w32_lw (k := 1) h.i0 hi (by decide) (by decide), (show 0 ≤ i + 1 by omega), (show i + 1 < V 0 1 by omega)]
  refine CC_mn h2 ?_
  rintro r2 H2 ⟨hF2, rfl, hI2⟩
  simp only [rr, sh, Nat.reduceLT, Nat.reduceMul, Int.reduceToNat, Int.reduceGT, Int.reduceGE, Int.reduceNe, true_and, and_true, true_or, or_true, false_or, or_false, and_self, or_self, if_true, if_false, reduceIte, not_true_eq_false, not_false_eq_true, Int.reduceEq, Int.reduceNe, Int.reduceLT, Int.reduceLE, Int.reduceAdd, Int.reduceSub, Int.reduceMul, Int.reduceNeg, Nat.reduceAdd, Nat.reduceLeDiff, Nat.reduceEqDiff, ne_eq, List.length_cons, List.length_nil, Nat.reduceSub, eq_self, e_LW_law_46, k_LW_law_46, w32_lw (k := 6) h.i0 hi (by decide) (by decide)]
  exact hn H2 hI2 hF2
set_option maxRecDepth 20000 in
theorem lw_b2 {d : Nat} {V : Hp} {i : Int} {Q : AV → Hp → Prop} (hI : Inv0 V) (h : Scr V i) (hn : LwN (d + 41) V i Q) : R (d + 41) LW_law (blk LW_law 2) [va 999, va 1, va 71, vi i] [] V Q := by
  have i0 := h.i0
  have i6 := h.i6
  have hi : i ≤ 3072 := Int.le_trans (by omega) h.mx
  simp only [e_LW_law_2, k_LW_law_2, rr, sh, Nat.reduceLT, Nat.reduceMul, Int.reduceToNat, Int.reduceGT, Int.reduceGE, Int.reduceNe, true_and, and_true, true_or, or_true, false_or, or_false, and_self, or_self, if_true, if_false, reduceIte, not_true_eq_false, not_false_eq_true, Int.reduceEq, Int.reduceNe, Int.reduceLT, Int.reduceLE, Int.reduceAdd, Int.reduceSub, Int.reduceMul, Int.reduceNeg, Nat.reduceAdd, Nat.reduceLeDiff, Nat.reduceEqDiff, ne_eq, List.length_cons, List.length_nil, Nat.reduceSub, w32_lw (k := 1) h.i0 hi (by decide) (by decide), w32_lw (k := 2) h.i0 hi (by decide) (by decide), w32_lw (k := 3) h.i0 hi (by decide) (by decide), w32_lw (k := 4) h.i0 hi (by decide) (by decide), w32_lw (k := 5) h.i0 hi (by decide) (by decide), (show 0 ≤ i + 1 by omega), (show i + 1 < V 0 1 by omega), (show 0 ≤ i + 2 by omega), (show i + 2 < V 0 1 by omega), (show 0 ≤ i + 3 by omega), (show i + 3 < V 0 1 by omega), (show 0 ≤ i + 4 by omega), (show i + 4 < V 0 1 by omega), (show 0 ≤ i + 5 by omega), (show i + 5 < V 0 1 by omega)]
  refine pair_i (p_feed hI) (by decide) (by decide) (by decide +kernel) ?_
  intro x H1 hF h2
  have hz := hF.z
  have hs := hF.s
  simp only [rr, sh, Nat.reduceLT, Nat.reduceMul, Int.reduceToNat, Int.reduceGT, Int.reduceGE, Int.reduceNe, true_and, and_true, true_or, or_true, false_or, or_false, and_self, or_self, if_true, if_false, reduceIte, not_true_eq_false, not_false_eq_true, Int.reduceEq, Int.reduceNe, Int.reduceLT, Int.reduceLE, Int.reduceAdd, Int.reduceSub, Int.reduceMul, Int.reduceNeg, Nat.reduceAdd, Nat.reduceLeDiff, Nat.reduceEqDiff, ne_eq, List.length_cons, List.length_nil, Nat.reduceSub, hz, hs, w32_lw (k := 1) h.i0 hi (by decide) (by decide), w32_lw (k := 2) h.i0 hi (by decide) (by decide), w32_lw (k := 3) h.i0 hi (by decide) (by decide), w32_lw (k := 4) h.i0 hi (by decide) (by decide), w32_lw (k := 5) h.i0 hi (by decide) (by decide), (show 0 ≤ i + 1 by omega), (show i + 1 < V 0 1 by omega), (show 0 ≤ i + 2 by omega), (show i + 2 < V 0 1 by omega), (show 0 ≤ i + 3 by omega), (show i + 3 < V 0 1 by omega), (show 0 ≤ i + 4 by omega), (show i + 4 < V 0 1 by omega), (show 0 ≤ i + 5 by omega), (show i + 5 < V 0 1 by omega)]
  refine CC_mn h2 ?_
  rintro r2 H2 ⟨hF2, rfl, hI2⟩
  simp only [rr, sh, Nat.reduceLT, Nat.reduceMul, Int.reduceToNat, Int.reduceGT, Int.reduceGE, Int.reduceNe, true_and, and_true, true_or, or_true, false_or, or_false, and_self, or_self, if_true, if_false, reduceIte, not_true_eq_false, not_false_eq_true, Int.reduceEq, Int.reduceNe, Int.reduceLT, Int.reduceLE, Int.reduceAdd, Int.reduceSub, Int.reduceMul, Int.reduceNeg, Nat.reduceAdd, Nat.reduceLeDiff, Nat.reduceEqDiff, ne_eq, List.length_cons, List.length_nil, Nat.reduceSub, eq_self, e_LW_law_46, k_LW_law_46, w32_lw (k := 6) h.i0 hi (by decide) (by decide)]
  exact hn H2 hI2 hF2
set_option maxRecDepth 20000 in
theorem lw_b5 {d : Nat} {V : Hp} {i : Int} {Q : AV → Hp → Prop} (hI : Inv0 V) (h : Scr V i) (hn : LwN (d + 41) V i Q) : R (d + 41) LW_law (blk LW_law 5) [va 999, va 1, va 71, vi i] [] V Q := by
  have i0 := h.i0
  have i6 := h.i6
  have hi : i ≤ 3072 := Int.le_trans (by omega) h.mx
  simp only [e_LW_law_5, k_LW_law_5, rr, sh, Nat.reduceLT, Nat.reduceMul, Int.reduceToNat, Int.reduceGT, Int.reduceGE, Int.reduceNe, true_and, and_true, true_or, or_true, false_or, or_false, and_self, or_self, if_true, if_false, reduceIte, not_true_eq_false, not_false_eq_true, Int.reduceEq, Int.reduceNe, Int.reduceLT, Int.reduceLE, Int.reduceAdd, Int.reduceSub, Int.reduceMul, Int.reduceNeg, Nat.reduceAdd, Nat.reduceLeDiff, Nat.reduceEqDiff, ne_eq, List.length_cons, List.length_nil, Nat.reduceSub, w32_lw (k := 1) h.i0 hi (by decide) (by decide), (show 0 ≤ i + 1 by omega), (show i + 1 < V 0 1 by omega)]
  refine pair_i (p_fault hI) (by decide) (by decide) (by decide +kernel) ?_
  intro x H1 hF h2
  have hz := hF.z
  have hs := hF.s
  simp only [rr, sh, Nat.reduceLT, Nat.reduceMul, Int.reduceToNat, Int.reduceGT, Int.reduceGE, Int.reduceNe, true_and, and_true, true_or, or_true, false_or, or_false, and_self, or_self, if_true, if_false, reduceIte, not_true_eq_false, not_false_eq_true, Int.reduceEq, Int.reduceNe, Int.reduceLT, Int.reduceLE, Int.reduceAdd, Int.reduceSub, Int.reduceMul, Int.reduceNeg, Nat.reduceAdd, Nat.reduceLeDiff, Nat.reduceEqDiff, ne_eq, List.length_cons, List.length_nil, Nat.reduceSub, hz, hs, w32_lw (k := 1) h.i0 hi (by decide) (by decide), (show 0 ≤ i + 1 by omega), (show i + 1 < V 0 1 by omega)]
  refine CC_mn h2 ?_
  rintro r2 H2 ⟨hF2, rfl, hI2⟩
  simp only [rr, sh, Nat.reduceLT, Nat.reduceMul, Int.reduceToNat, Int.reduceGT, Int.reduceGE, Int.reduceNe, true_and, and_true, true_or, or_true, false_or, or_false, and_self, or_self, if_true, if_false, reduceIte, not_true_eq_false, not_false_eq_true, Int.reduceEq, Int.reduceNe, Int.reduceLT, Int.reduceLE, Int.reduceAdd, Int.reduceSub, Int.reduceMul, Int.reduceNeg, Nat.reduceAdd, Nat.reduceLeDiff, Nat.reduceEqDiff, ne_eq, List.length_cons, List.length_nil, Nat.reduceSub, eq_self, e_LW_law_46, k_LW_law_46, w32_lw (k := 6) h.i0 hi (by decide) (by decide)]
  exact hn H2 hI2 hF2
set_option maxRecDepth 20000 in
theorem lw_b6 {d : Nat} {V : Hp} {i : Int} {Q : AV → Hp → Prop} (hI : Inv0 V) (h : Scr V i) (hn : LwN (d + 41) V i Q) : R (d + 41) LW_law (blk LW_law 6) [va 999, va 1, va 71, vi i] [] V Q := by
  have i0 := h.i0
  have i6 := h.i6
  have hi : i ≤ 3072 := Int.le_trans (by omega) h.mx
  simp only [e_LW_law_6, k_LW_law_6, rr, sh, Nat.reduceLT, Nat.reduceMul, Int.reduceToNat, Int.reduceGT, Int.reduceGE, Int.reduceNe, true_and, and_true, true_or, or_true, false_or, or_false, and_self, or_self, if_true, if_false, reduceIte, not_true_eq_false, not_false_eq_true, Int.reduceEq, Int.reduceNe, Int.reduceLT, Int.reduceLE, Int.reduceAdd, Int.reduceSub, Int.reduceMul, Int.reduceNeg, Nat.reduceAdd, Nat.reduceLeDiff, Nat.reduceEqDiff, ne_eq, List.length_cons, List.length_nil, Nat.reduceSub, w32_lw (k := 1) h.i0 hi (by decide) (by decide), (show 0 ≤ i + 1 by omega), (show i + 1 < V 0 1 by omega)]
  refine pair_i (p_boat hI) (by decide) (by decide) (by decide +kernel) ?_
  intro x H1 hF h2
  have hz := hF.z
  have hs := hF.s
  simp only [rr, sh, Nat.reduceLT, Nat.reduceMul, Int.reduceToNat, Int.reduceGT, Int.reduceGE, Int.reduceNe, true_and, and_true, true_or, or_true, false_or, or_false, and_self, or_self, if_true, if_false, reduceIte, not_true_eq_false, not_false_eq_true, Int.reduceEq, Int.reduceNe, Int.reduceLT, Int.reduceLE, Int.reduceAdd, Int.reduceSub, Int.reduceMul, Int.reduceNeg, Nat.reduceAdd, Nat.reduceLeDiff, Nat.reduceEqDiff, ne_eq, List.length_cons, List.length_nil, Nat.reduceSub, hz, hs, w32_lw (k := 1) h.i0 hi (by decide) (by decide), (show 0 ≤ i + 1 by omega), (show i + 1 < V 0 1 by omega)]
  refine CC_mn h2 ?_
  rintro r2 H2 ⟨hF2, rfl, hI2⟩
  simp only [rr, sh, Nat.reduceLT, Nat.reduceMul, Int.reduceToNat, Int.reduceGT, Int.reduceGE, Int.reduceNe, true_and, and_true, true_or, or_true, false_or, or_false, and_self, or_self, if_true, if_false, reduceIte, not_true_eq_false, not_false_eq_true, Int.reduceEq, Int.reduceNe, Int.reduceLT, Int.reduceLE, Int.reduceAdd, Int.reduceSub, Int.reduceMul, Int.reduceNeg, Nat.reduceAdd, Nat.reduceLeDiff, Nat.reduceEqDiff, ne_eq, List.length_cons, List.length_nil, Nat.reduceSub, eq_self, e_LW_law_46, k_LW_law_46, w32_lw (k := 6) h.i0 hi (by decide) (by decide)]
  exact hn H2 hI2 hF2
set_option maxRecDepth 20000 in
theorem lw_b7 {d : Nat} {V : Hp} {i : Int} {Q : AV → Hp → Prop} (hI : Inv0 V) (h : Scr V i) (hn : LwN (d + 41) V i Q) : R (d + 41) LW_law (blk LW_law 7) [va 999, va 1, va 71, vi i] [] V Q := by
  have i0 := h.i0
  have i6 := h.i6
  have hi : i ≤ 3072 := Int.le_trans (by omega) h.mx
  simp only [e_LW_law_7, k_LW_law_7, rr, sh, Nat.reduceLT, Nat.reduceMul, Int.reduceToNat, Int.reduceGT, Int.reduceGE, Int.reduceNe, true_and, and_true, true_or, or_true, false_or, or_false, and_self, or_self, if_true, if_false, reduceIte, not_true_eq_false, not_false_eq_true, Int.reduceEq, Int.reduceNe, Int.reduceLT, Int.reduceLE, Int.reduceAdd, Int.reduceSub, Int.reduceMul, Int.reduceNeg, Nat.reduceAdd, Nat.reduceLeDiff, Nat.reduceEqDiff, ne_eq, List.length_cons, List.length_nil, Nat.reduceSub, w32_lw (k := 1) h.i0 hi (by decide) (by decide), w32_lw (k := 2) h.i0 hi (by decide) (by decide), (show 0 ≤ i + 1 by omega), (show i + 1 < V 0 1 by omega), (show 0 ≤ i + 2 by omega), (show i + 2 < V 0 1 by omega)]
  refine pair_i (p_letter hI) (by decide) (by decide) (by decide +kernel) ?_
  intro x H1 hF h2
  have hz := hF.z
  have hs := hF.s
  simp only [rr, sh, Nat.reduceLT, Nat.reduceMul, Int.reduceToNat, Int.reduceGT, Int.reduceGE, Int.reduceNe, true_and, and_true, true_or, or_true, false_or, or_false, and_self, or_self, if_true, if_false, reduceIte, not_true_eq_false, not_false_eq_true, Int.reduceEq, Int.reduceNe, Int.reduceLT, Int.reduceLE, Int.reduceAdd, Int.reduceSub, Int.reduceMul, Int.reduceNeg, Nat.reduceAdd, Nat.reduceLeDiff, Nat.reduceEqDiff, ne_eq, List.length_cons, List.length_nil, Nat.reduceSub, hz, hs, w32_lw (k := 1) h.i0 hi (by decide) (by decide), w32_lw (k := 2) h.i0 hi (by decide) (by decide), (show 0 ≤ i + 1 by omega), (show i + 1 < V 0 1 by omega), (show 0 ≤ i + 2 by omega), (show i + 2 < V 0 1 by omega)]
  refine CC_mn h2 ?_
  rintro r2 H2 ⟨hF2, rfl, hI2⟩
  simp only [rr, sh, Nat.reduceLT, Nat.reduceMul, Int.reduceToNat, Int.reduceGT, Int.reduceGE, Int.reduceNe, true_and, and_true, true_or, or_true, false_or, or_false, and_self, or_self, if_true, if_false, reduceIte, not_true_eq_false, not_false_eq_true, Int.reduceEq, Int.reduceNe, Int.reduceLT, Int.reduceLE, Int.reduceAdd, Int.reduceSub, Int.reduceMul, Int.reduceNeg, Nat.reduceAdd, Nat.reduceLeDiff, Nat.reduceEqDiff, ne_eq, List.length_cons, List.length_nil, Nat.reduceSub, eq_self, e_LW_law_46, k_LW_law_46, w32_lw (k := 6) h.i0 hi (by decide) (by decide)]
  exact hn H2 hI2 hF2
set_option maxRecDepth 20000 in
theorem lw_b8 {d : Nat} {V : Hp} {i : Int} {Q : AV → Hp → Prop} (hI : Inv0 V) (h : Scr V i) (hn : LwN (d + 41) V i Q) : R (d + 41) LW_law (blk LW_law 8) [va 999, va 1, va 71, vi i] [] V Q := by
  have i0 := h.i0
  have i6 := h.i6
  have hi : i ≤ 3072 := Int.le_trans (by omega) h.mx
  simp only [e_LW_law_8, k_LW_law_8, rr, sh, Nat.reduceLT, Nat.reduceMul, Int.reduceToNat, Int.reduceGT, Int.reduceGE, Int.reduceNe, true_and, and_true, true_or, or_true, false_or, or_false, and_self, or_self, if_true, if_false, reduceIte, not_true_eq_false, not_false_eq_true, Int.reduceEq, Int.reduceNe, Int.reduceLT, Int.reduceLE, Int.reduceAdd, Int.reduceSub, Int.reduceMul, Int.reduceNeg, Nat.reduceAdd, Nat.reduceLeDiff, Nat.reduceEqDiff, ne_eq, List.length_cons, List.length_nil, Nat.reduceSub, w32_lw (k := 1) h.i0 hi (by decide) (by decide), w32_lw (k := 2) h.i0 hi (by decide) (by decide), (show 0 ≤ i + 1 by omega), (show i + 1 < V 0 1 by omega), (show 0 ≤ i + 2 by omega), (show i + 2 < V 0 1 by omega)]
  refine pair_i (p_seat hI) (by decide) (by decide) (by decide +kernel) ?_
  intro x H1 hF h2
  have hz := hF.z
  have hs := hF.s
  simp only [rr, sh, Nat.reduceLT, Nat.reduceMul, Int.reduceToNat, Int.reduceGT, Int.reduceGE, Int.reduceNe, true_and, and_true, true_or, or_true, false_or, or_false, and_self, or_self, if_true, if_false, reduceIte, not_true_eq_false, not_false_eq_true, Int.reduceEq, Int.reduceNe, Int.reduceLT, Int.reduceLE, Int.reduceAdd, Int.reduceSub, Int.reduceMul, Int.reduceNeg, Nat.reduceAdd, Nat.reduceLeDiff, Nat.reduceEqDiff, ne_eq, List.length_cons, List.length_nil, Nat.reduceSub, hz, hs, w32_lw (k := 1) h.i0 hi (by decide) (by decide), w32_lw (k := 2) h.i0 hi (by decide) (by decide), (show 0 ≤ i + 1 by omega), (show i + 1 < V 0 1 by omega), (show 0 ≤ i + 2 by omega), (show i + 2 < V 0 1 by omega)]
  refine CC_mn h2 ?_
  rintro r2 H2 ⟨hF2, rfl, hI2⟩
  simp only [rr, sh, Nat.reduceLT, Nat.reduceMul, Int.reduceToNat, Int.reduceGT, Int.reduceGE, Int.reduceNe, true_and, and_true, true_or, or_true, false_or, or_false, and_self, or_self, if_true, if_false, reduceIte, not_true_eq_false, not_false_eq_true, Int.reduceEq, Int.reduceNe, Int.reduceLT, Int.reduceLE, Int.reduceAdd, Int.reduceSub, Int.reduceMul, Int.reduceNeg, Nat.reduceAdd, Nat.reduceLeDiff, Nat.reduceEqDiff, ne_eq, List.length_cons, List.length_nil, Nat.reduceSub, eq_self, e_LW_law_46, k_LW_law_46, w32_lw (k := 6) h.i0 hi (by decide) (by decide)]
  exact hn H2 hI2 hF2
set_option maxRecDepth 20000 in
theorem lw_b9 {d : Nat} {V : Hp} {i : Int} {Q : AV → Hp → Prop} (hI : Inv0 V) (h : Scr V i) (hn : LwN (d + 41) V i Q) : R (d + 41) LW_law (blk LW_law 9) [va 999, va 1, va 71, vi i] [] V Q := by
  have i0 := h.i0
  have i6 := h.i6
  have hi : i ≤ 3072 := Int.le_trans (by omega) h.mx
  simp only [e_LW_law_9, k_LW_law_9, rr, sh, Nat.reduceLT, Nat.reduceMul, Int.reduceToNat, Int.reduceGT, Int.reduceGE, Int.reduceNe, true_and, and_true, true_or, or_true, false_or, or_false, and_self, or_self, if_true, if_false, reduceIte, not_true_eq_false, not_false_eq_true, Int.reduceEq, Int.reduceNe, Int.reduceLT, Int.reduceLE, Int.reduceAdd, Int.reduceSub, Int.reduceMul, Int.reduceNeg, Nat.reduceAdd, Nat.reduceLeDiff, Nat.reduceEqDiff, ne_eq, List.length_cons, List.length_nil, Nat.reduceSub, w32_lw (k := 1) h.i0 hi (by decide) (by decide), w32_lw (k := 2) h.i0 hi (by decide) (by decide), (show 0 ≤ i + 1 by omega), (show i + 1 < V 0 1 by omega), (show 0 ≤ i + 2 by omega), (show i + 2 < V 0 1 by omega)]
  refine pair_i (p_rower hI) (by decide) (by decide) (by decide +kernel) ?_
  intro x H1 hF h2
  have hz := hF.z
  have hs := hF.s
  simp only [rr, sh, Nat.reduceLT, Nat.reduceMul, Int.reduceToNat, Int.reduceGT, Int.reduceGE, Int.reduceNe, true_and, and_true, true_or, or_true, false_or, or_false, and_self, or_self, if_true, if_false, reduceIte, not_true_eq_false, not_false_eq_true, Int.reduceEq, Int.reduceNe, Int.reduceLT, Int.reduceLE, Int.reduceAdd, Int.reduceSub, Int.reduceMul, Int.reduceNeg, Nat.reduceAdd, Nat.reduceLeDiff, Nat.reduceEqDiff, ne_eq, List.length_cons, List.length_nil, Nat.reduceSub, hz, hs, w32_lw (k := 1) h.i0 hi (by decide) (by decide), w32_lw (k := 2) h.i0 hi (by decide) (by decide), (show 0 ≤ i + 1 by omega), (show i + 1 < V 0 1 by omega), (show 0 ≤ i + 2 by omega), (show i + 2 < V 0 1 by omega)]
  refine CC_mn h2 ?_
  rintro r2 H2 ⟨hF2, rfl, hI2⟩
  simp only [rr, sh, Nat.reduceLT, Nat.reduceMul, Int.reduceToNat, Int.reduceGT, Int.reduceGE, Int.reduceNe, true_and, and_true, true_or, or_true, false_or, or_false, and_self, or_self, if_true, if_false, reduceIte, not_true_eq_false, not_false_eq_true, Int.reduceEq, Int.reduceNe, Int.reduceLT, Int.reduceLE, Int.reduceAdd, Int.reduceSub, Int.reduceMul, Int.reduceNeg, Nat.reduceAdd, Nat.reduceLeDiff, Nat.reduceEqDiff, ne_eq, List.length_cons, List.length_nil, Nat.reduceSub, eq_self, e_LW_law_46, k_LW_law_46, w32_lw (k := 6) h.i0 hi (by decide) (by decide)]
  exact hn H2 hI2 hF2
set_option maxRecDepth 20000 in
theorem lw_b10 {d : Nat} {V : Hp} {i : Int} {Q : AV → Hp → Prop} (hI : Inv0 V) (h : Scr V i) (hn : LwN (d + 41) V i Q) : R (d + 41) LW_law (blk LW_law 10) [va 999, va 1, va 71, vi i] [] V Q := by
  have i0 := h.i0
  have i6 := h.i6
  have hi : i ≤ 3072 := Int.le_trans (by omega) h.mx
  simp only [e_LW_law_10, k_LW_law_10, rr, sh, Nat.reduceLT, Nat.reduceMul, Int.reduceToNat, Int.reduceGT, Int.reduceGE, Int.reduceNe, true_and, and_true, true_or, or_true, false_or, or_false, and_self, or_self, if_true, if_false, reduceIte, not_true_eq_false, not_false_eq_true, Int.reduceEq, Int.reduceNe, Int.reduceLT, Int.reduceLE, Int.reduceAdd, Int.reduceSub, Int.reduceMul, Int.reduceNeg, Nat.reduceAdd, Nat.reduceLeDiff, Nat.reduceEqDiff, ne_eq, List.length_cons, List.length_nil, Nat.reduceSub, w32_lw (k := 1) h.i0 hi (by decide) (by decide), (show 0 ≤ i + 1 by omega), (show i + 1 < V 0 1 by omega)]
  refine pair_l (p_want hI) (by decide) (by decide) (by decide +kernel) ?_
  intro x H1 hF h2
  have hz := hF.z
  have hs := hF.s
  simp only [rr, sh, Nat.reduceLT, Nat.reduceMul, Int.reduceToNat, Int.reduceGT, Int.reduceGE, Int.reduceNe, true_and, and_true, true_or, or_true, false_or, or_false, and_self, or_self, if_true, if_false, reduceIte, not_true_eq_false, not_false_eq_true, Int.reduceEq, Int.reduceNe, Int.reduceLT, Int.reduceLE, Int.reduceAdd, Int.reduceSub, Int.reduceMul, Int.reduceNeg, Nat.reduceAdd, Nat.reduceLeDiff, Nat.reduceEqDiff, ne_eq, List.length_cons, List.length_nil, Nat.reduceSub, hz, hs, w32_lw (k := 1) h.i0 hi (by decide) (by decide), (show 0 ≤ i + 1 by omega), (show i + 1 < V 0 1 by omega)]
  refine CC_mn h2 ?_
  rintro r2 H2 ⟨hF2, rfl, hI2⟩
  simp only [rr, sh, Nat.reduceLT, Nat.reduceMul, Int.reduceToNat, Int.reduceGT, Int.reduceGE, Int.reduceNe, true_and, and_true, true_or, or_true, false_or, or_false, and_self, or_self, if_true, if_false, reduceIte, not_true_eq_false, not_false_eq_true, Int.reduceEq, Int.reduceNe, Int.reduceLT, Int.reduceLE, Int.reduceAdd, Int.reduceSub, Int.reduceMul, Int.reduceNeg, Nat.reduceAdd, Nat.reduceLeDiff, Nat.reduceEqDiff, ne_eq, List.length_cons, List.length_nil, Nat.reduceSub, cmp3_s, e_LW_law_46, k_LW_law_46, w32_lw (k := 6) h.i0 hi (by decide) (by decide)]
  exact hn H2 hI2 hF2
set_option maxRecDepth 20000 in
theorem lw_b11 {d : Nat} {V : Hp} {i : Int} {Q : AV → Hp → Prop} (hI : Inv0 V) (h : Scr V i) (hn : LwN (d + 41) V i Q) : R (d + 41) LW_law (blk LW_law 11) [va 999, va 1, va 71, vi i] [] V Q := by
  have i0 := h.i0
  have i6 := h.i6
  have hi : i ≤ 3072 := Int.le_trans (by omega) h.mx
  simp only [e_LW_law_11, k_LW_law_11, rr, sh, Nat.reduceLT, Nat.reduceMul, Int.reduceToNat, Int.reduceGT, Int.reduceGE, Int.reduceNe, true_and, and_true, true_or, or_true, false_or, or_false, and_self, or_self, if_true, if_false, reduceIte, not_true_eq_false, not_false_eq_true, Int.reduceEq, Int.reduceNe, Int.reduceLT, Int.reduceLE, Int.reduceAdd, Int.reduceSub, Int.reduceMul, Int.reduceNeg, Nat.reduceAdd, Nat.reduceLeDiff, Nat.reduceEqDiff, ne_eq, List.length_cons, List.length_nil, Nat.reduceSub, w32_lw (k := 1) h.i0 hi (by decide) (by decide), w32_lw (k := 2) h.i0 hi (by decide) (by decide), (show 0 ≤ i + 1 by omega), (show i + 1 < V 0 1 by omega), (show 0 ≤ i + 2 by omega), (show i + 2 < V 0 1 by omega)]
  refine pair_l (p_swing hI) (by decide) (by decide) (by decide +kernel) ?_
  intro x H1 hF h2
  have hz := hF.z
  have hs := hF.s
  simp only [rr, sh, Nat.reduceLT, Nat.reduceMul, Int.reduceToNat, Int.reduceGT, Int.reduceGE, Int.reduceNe, true_and, and_true, true_or, or_true, false_or, or_false, and_self, or_self, if_true, if_false, reduceIte, not_true_eq_false, not_false_eq_true, Int.reduceEq, Int.reduceNe, Int.reduceLT, Int.reduceLE, Int.reduceAdd, Int.reduceSub, Int.reduceMul, Int.reduceNeg, Nat.reduceAdd, Nat.reduceLeDiff, Nat.reduceEqDiff, ne_eq, List.length_cons, List.length_nil, Nat.reduceSub, hz, hs, w32_lw (k := 1) h.i0 hi (by decide) (by decide), w32_lw (k := 2) h.i0 hi (by decide) (by decide), (show 0 ≤ i + 1 by omega), (show i + 1 < V 0 1 by omega), (show 0 ≤ i + 2 by omega), (show i + 2 < V 0 1 by omega)]
  refine CC_mn h2 ?_
  rintro r2 H2 ⟨hF2, rfl, hI2⟩
  simp only [rr, sh, Nat.reduceLT, Nat.reduceMul, Int.reduceToNat, Int.reduceGT, Int.reduceGE, Int.reduceNe, true_and, and_true, true_or, or_true, false_or, or_false, and_self, or_self, if_true, if_false, reduceIte, not_true_eq_false, not_false_eq_true, Int.reduceEq, Int.reduceNe, Int.reduceLT, Int.reduceLE, Int.reduceAdd, Int.reduceSub, Int.reduceMul, Int.reduceNeg, Nat.reduceAdd, Nat.reduceLeDiff, Nat.reduceEqDiff, ne_eq, List.length_cons, List.length_nil, Nat.reduceSub, cmp3_s, e_LW_law_46, k_LW_law_46, w32_lw (k := 6) h.i0 hi (by decide) (by decide)]
  exact hn H2 hI2 hF2
set_option maxRecDepth 20000 in
theorem lw_b12 {d : Nat} {V : Hp} {i : Int} {Q : AV → Hp → Prop} (hI : Inv0 V) (h : Scr V i) (hn : LwN (d + 41) V i Q) : R (d + 41) LW_law (blk LW_law 12) [va 999, va 1, va 71, vi i] [] V Q := by
  have i0 := h.i0
  have i6 := h.i6
  have hi : i ≤ 3072 := Int.le_trans (by omega) h.mx
  simp only [e_LW_law_12, k_LW_law_12, rr, sh, Nat.reduceLT, Nat.reduceMul, Int.reduceToNat, Int.reduceGT, Int.reduceGE, Int.reduceNe, true_and, and_true, true_or, or_true, false_or, or_false, and_self, or_self, if_true, if_false, reduceIte, not_true_eq_false, not_false_eq_true, Int.reduceEq, Int.reduceNe, Int.reduceLT, Int.reduceLE, Int.reduceAdd, Int.reduceSub, Int.reduceMul, Int.reduceNeg, Nat.reduceAdd, Nat.reduceLeDiff, Nat.reduceEqDiff, ne_eq, List.length_cons, List.length_nil, Nat.reduceSub]
  refine pair_l (p_off hI) (by decide) (by decide) (by decide +kernel) ?_
  intro x H1 hF h2
  have hz := hF.z
  have hs := hF.s
  simp only [rr, sh, Nat.reduceLT, Nat.reduceMul, Int.reduceToNat, Int.reduceGT, Int.reduceGE, Int.reduceNe, true_and, and_true, true_or, or_true, false_or, or_false, and_self, or_self, if_true, if_false, reduceIte, not_true_eq_false, not_false_eq_true, Int.reduceEq, Int.reduceNe, Int.reduceLT, Int.reduceLE, Int.reduceAdd, Int.reduceSub, Int.reduceMul, Int.reduceNeg, Nat.reduceAdd, Nat.reduceLeDiff, Nat.reduceEqDiff, ne_eq, List.length_cons, List.length_nil, Nat.reduceSub, hz, hs]
  refine CC_mn h2 ?_
  rintro r2 H2 ⟨hF2, rfl, hI2⟩
  simp only [rr, sh, Nat.reduceLT, Nat.reduceMul, Int.reduceToNat, Int.reduceGT, Int.reduceGE, Int.reduceNe, true_and, and_true, true_or, or_true, false_or, or_false, and_self, or_self, if_true, if_false, reduceIte, not_true_eq_false, not_false_eq_true, Int.reduceEq, Int.reduceNe, Int.reduceLT, Int.reduceLE, Int.reduceAdd, Int.reduceSub, Int.reduceMul, Int.reduceNeg, Nat.reduceAdd, Nat.reduceLeDiff, Nat.reduceEqDiff, ne_eq, List.length_cons, List.length_nil, Nat.reduceSub, cmp3_s, e_LW_law_46, k_LW_law_46, w32_lw (k := 6) h.i0 hi (by decide) (by decide)]
  exact hn H2 hI2 hF2
set_option maxRecDepth 20000 in
theorem lw_b13 {d : Nat} {V : Hp} {i : Int} {Q : AV → Hp → Prop} (hI : Inv0 V) (h : Scr V i) (hn : LwN (d + 41) V i Q) : R (d + 41) LW_law (blk LW_law 13) [va 999, va 1, va 71, vi i] [] V Q := by
  have i0 := h.i0
  have i6 := h.i6
  have hi : i ≤ 3072 := Int.le_trans (by omega) h.mx
  simp only [e_LW_law_13, k_LW_law_13, rr, sh, Nat.reduceLT, Nat.reduceMul, Int.reduceToNat, Int.reduceGT, Int.reduceGE, Int.reduceNe, true_and, and_true, true_or, or_true, false_or, or_false, and_self, or_self, if_true, if_false, reduceIte, not_true_eq_false, not_false_eq_true, Int.reduceEq, Int.reduceNe, Int.reduceLT, Int.reduceLE, Int.reduceAdd, Int.reduceSub, Int.reduceMul, Int.reduceNeg, Nat.reduceAdd, Nat.reduceLeDiff, Nat.reduceEqDiff, ne_eq, List.length_cons, List.length_nil, Nat.reduceSub]
  refine pair_i (p_good hI) (by decide) (by decide) (by decide +kernel) ?_
  intro x H1 hF h2
  have hz := hF.z
  have hs := hF.s
  simp only [rr, sh, Nat.reduceLT, Nat.reduceMul, Int.reduceToNat, Int.reduceGT, Int.reduceGE, Int.reduceNe, true_and, and_true, true_or, or_true, false_or, or_false, and_self, or_self, if_true, if_false, reduceIte, not_true_eq_false, not_false_eq_true, Int.reduceEq, Int.reduceNe, Int.reduceLT, Int.reduceLE, Int.reduceAdd, Int.reduceSub, Int.reduceMul, Int.reduceNeg, Nat.reduceAdd, Nat.reduceLeDiff, Nat.reduceEqDiff, ne_eq, List.length_cons, List.length_nil, Nat.reduceSub, hz, hs]
  refine CC_mn h2 ?_
  rintro r2 H2 ⟨hF2, rfl, hI2⟩
  simp only [rr, sh, Nat.reduceLT, Nat.reduceMul, Int.reduceToNat, Int.reduceGT, Int.reduceGE, Int.reduceNe, true_and, and_true, true_or, or_true, false_or, or_false, and_self, or_self, if_true, if_false, reduceIte, not_true_eq_false, not_false_eq_true, Int.reduceEq, Int.reduceNe, Int.reduceLT, Int.reduceLE, Int.reduceAdd, Int.reduceSub, Int.reduceMul, Int.reduceNeg, Nat.reduceAdd, Nat.reduceLeDiff, Nat.reduceEqDiff, ne_eq, List.length_cons, List.length_nil, Nat.reduceSub, eq_self, e_LW_law_46, k_LW_law_46, w32_lw (k := 6) h.i0 hi (by decide) (by decide)]
  exact hn H2 hI2 hF2
set_option maxRecDepth 20000 in
theorem lw_b14 {d : Nat} {V : Hp} {i : Int} {Q : AV → Hp → Prop} (hI : Inv0 V) (h : Scr V i) (hn : LwN (d + 41) V i Q) : R (d + 41) LW_law (blk LW_law 14) [va 999, va 1, va 71, vi i] [] V Q := by
  have i0 := h.i0
  have i6 := h.i6
  have hi : i ≤ 3072 := Int.le_trans (by omega) h.mx
  simp only [e_LW_law_14, k_LW_law_14, rr, sh, Nat.reduceLT, Nat.reduceMul, Int.reduceToNat, Int.reduceGT, Int.reduceGE, Int.reduceNe, true_and, and_true, true_or, or_true, false_or, or_false, and_self, or_self, if_true, if_false, reduceIte, not_true_eq_false, not_false_eq_true, Int.reduceEq, Int.reduceNe, Int.reduceLT, Int.reduceLE, Int.reduceAdd, Int.reduceSub, Int.reduceMul, Int.reduceNeg, Nat.reduceAdd, Nat.reduceLeDiff, Nat.reduceEqDiff, ne_eq, List.length_cons, List.length_nil, Nat.reduceSub]
  refine pair_i (p_lawful hI) (by decide) (by decide) (by decide +kernel) ?_
  intro x H1 hF h2
  have hz := hF.z
  have hs := hF.s
  simp only [rr, sh, Nat.reduceLT, Nat.reduceMul, Int.reduceToNat, Int.reduceGT, Int.reduceGE, Int.reduceNe, true_and, and_true, true_or, or_true, false_or, or_false, and_self, or_self, if_true, if_false, reduceIte, not_true_eq_false, not_false_eq_true, Int.reduceEq, Int.reduceNe, Int.reduceLT, Int.reduceLE, Int.reduceAdd, Int.reduceSub, Int.reduceMul, Int.reduceNeg, Nat.reduceAdd, Nat.reduceLeDiff, Nat.reduceEqDiff, ne_eq, List.length_cons, List.length_nil, Nat.reduceSub, hz, hs]
  refine CC_mn h2 ?_
  rintro r2 H2 ⟨hF2, rfl, hI2⟩
  simp only [rr, sh, Nat.reduceLT, Nat.reduceMul, Int.reduceToNat, Int.reduceGT, Int.reduceGE, Int.reduceNe, true_and, and_true, true_or, or_true, false_or, or_false, and_self, or_self, if_true, if_false, reduceIte, not_true_eq_false, not_false_eq_true, Int.reduceEq, Int.reduceNe, Int.reduceLT, Int.reduceLE, Int.reduceAdd, Int.reduceSub, Int.reduceMul, Int.reduceNeg, Nat.reduceAdd, Nat.reduceLeDiff, Nat.reduceEqDiff, ne_eq, List.length_cons, List.length_nil, Nat.reduceSub, eq_self, e_LW_law_46, k_LW_law_46, w32_lw (k := 6) h.i0 hi (by decide) (by decide)]
  exact hn H2 hI2 hF2
set_option maxRecDepth 20000 in
theorem lw_b15 {d : Nat} {V : Hp} {i : Int} {Q : AV → Hp → Prop} (hI : Inv0 V) (h : Scr V i) (hn : LwN (d + 41) V i Q) : R (d + 41) LW_law (blk LW_law 15) [va 999, va 1, va 71, vi i] [] V Q := by
  have i0 := h.i0
  have i6 := h.i6
  have hi : i ≤ 3072 := Int.le_trans (by omega) h.mx
  simp only [e_LW_law_15, k_LW_law_15, rr, sh, Nat.reduceLT, Nat.reduceMul, Int.reduceToNat, Int.reduceGT, Int.reduceGE, Int.reduceNe, true_and, and_true, true_or, or_true, false_or, or_false, and_self, or_self, if_true, if_false, reduceIte, not_true_eq_false, not_false_eq_true, Int.reduceEq, Int.reduceNe, Int.reduceLT, Int.reduceLE, Int.reduceAdd, Int.reduceSub, Int.reduceMul, Int.reduceNeg, Nat.reduceAdd, Nat.reduceLeDiff, Nat.reduceEqDiff, ne_eq, List.length_cons, List.length_nil, Nat.reduceSub]
  refine pair_l (p_heading hI) (by decide) (by decide) (by decide +kernel) ?_
  intro x H1 hF h2
  have hz := hF.z
  have hs := hF.s
  simp only [rr, sh, Nat.reduceLT, Nat.reduceMul, Int.reduceToNat, Int.reduceGT, Int.reduceGE, Int.reduceNe, true_and, and_true, true_or, or_true, false_or, or_false, and_self, or_self, if_true, if_false, reduceIte, not_true_eq_false, not_false_eq_true, Int.reduceEq, Int.reduceNe, Int.reduceLT, Int.reduceLE, Int.reduceAdd, Int.reduceSub, Int.reduceMul, Int.reduceNeg, Nat.reduceAdd, Nat.reduceLeDiff, Nat.reduceEqDiff, ne_eq, List.length_cons, List.length_nil, Nat.reduceSub, hz, hs]
  refine CC_mn h2 ?_
  rintro r2 H2 ⟨hF2, rfl, hI2⟩
  simp only [rr, sh, Nat.reduceLT, Nat.reduceMul, Int.reduceToNat, Int.reduceGT, Int.reduceGE, Int.reduceNe, true_and, and_true, true_or, or_true, false_or, or_false, and_self, or_self, if_true, if_false, reduceIte, not_true_eq_false, not_false_eq_true, Int.reduceEq, Int.reduceNe, Int.reduceLT, Int.reduceLE, Int.reduceAdd, Int.reduceSub, Int.reduceMul, Int.reduceNeg, Nat.reduceAdd, Nat.reduceLeDiff, Nat.reduceEqDiff, ne_eq, List.length_cons, List.length_nil, Nat.reduceSub, cmp3_s, e_LW_law_46, k_LW_law_46, w32_lw (k := 6) h.i0 hi (by decide) (by decide)]
  exact hn H2 hI2 hF2
set_option maxRecDepth 20000 in
theorem lw_b16 {d : Nat} {V : Hp} {i : Int} {Q : AV → Hp → Prop} (hI : Inv0 V) (h : Scr V i) (hn : LwN (d + 41) V i Q) : R (d + 41) LW_law (blk LW_law 16) [va 999, va 1, va 71, vi i] [] V Q := by
  have i0 := h.i0
  have i6 := h.i6
  have hi : i ≤ 3072 := Int.le_trans (by omega) h.mx
  simp only [e_LW_law_16, k_LW_law_16, rr, sh, Nat.reduceLT, Nat.reduceMul, Int.reduceToNat, Int.reduceGT, Int.reduceGE, Int.reduceNe, true_and, and_true, true_or, or_true, false_or, or_false, and_self, or_self, if_true, if_false, reduceIte, not_true_eq_false, not_false_eq_true, Int.reduceEq, Int.reduceNe, Int.reduceLT, Int.reduceLE, Int.reduceAdd, Int.reduceSub, Int.reduceMul, Int.reduceNeg, Nat.reduceAdd, Nat.reduceLeDiff, Nat.reduceEqDiff, ne_eq, List.length_cons, List.length_nil, Nat.reduceSub, w32_lw (k := 1) h.i0 hi (by decide) (by decide), (show 0 ≤ i + 1 by omega), (show i + 1 < V 0 1 by omega)]
  refine pair_i (p_turn hI) (by decide) (by decide) (by decide +kernel) ?_
  intro x H1 hF h2
  have hz := hF.z
  have hs := hF.s
  simp only [rr, sh, Nat.reduceLT, Nat.reduceMul, Int.reduceToNat, Int.reduceGT, Int.reduceGE, Int.reduceNe, true_and, and_true, true_or, or_true, false_or, or_false, and_self, or_self, if_true, if_false, reduceIte, not_true_eq_false, not_false_eq_true, Int.reduceEq, Int.reduceNe, Int.reduceLT, Int.reduceLE, Int.reduceAdd, Int.reduceSub, Int.reduceMul, Int.reduceNeg, Nat.reduceAdd, Nat.reduceLeDiff, Nat.reduceEqDiff, ne_eq, List.length_cons, List.length_nil, Nat.reduceSub, hz, hs, w32_lw (k := 1) h.i0 hi (by decide) (by decide), (show 0 ≤ i + 1 by omega), (show i + 1 < V 0 1 by omega)]
  refine CC_mn h2 ?_
  rintro r2 H2 ⟨hF2, rfl, hI2⟩
  simp only [rr, sh, Nat.reduceLT, Nat.reduceMul, Int.reduceToNat, Int.reduceGT, Int.reduceGE, Int.reduceNe, true_and, and_true, true_or, or_true, false_or, or_false, and_self, or_self, if_true, if_false, reduceIte, not_true_eq_false, not_false_eq_true, Int.reduceEq, Int.reduceNe, Int.reduceLT, Int.reduceLE, Int.reduceAdd, Int.reduceSub, Int.reduceMul, Int.reduceNeg, Nat.reduceAdd, Nat.reduceLeDiff, Nat.reduceEqDiff, ne_eq, List.length_cons, List.length_nil, Nat.reduceSub, eq_self, e_LW_law_46, k_LW_law_46, w32_lw (k := 6) h.i0 hi (by decide) (by decide)]
  exact hn H2 hI2 hF2
set_option maxRecDepth 20000 in
theorem lw_b17 {d : Nat} {V : Hp} {i : Int} {Q : AV → Hp → Prop} (hI : Inv0 V) (h : Scr V i) (hn : LwN (d + 41) V i Q) : R (d + 41) LW_law (blk LW_law 17) [va 999, va 1, va 71, vi i] [] V Q := by
  have i0 := h.i0
  have i6 := h.i6
  have hi : i ≤ 3072 := Int.le_trans (by omega) h.mx
  simp only [e_LW_law_17, k_LW_law_17, rr, sh, Nat.reduceLT, Nat.reduceMul, Int.reduceToNat, Int.reduceGT, Int.reduceGE, Int.reduceNe, true_and, and_true, true_or, or_true, false_or, or_false, and_self, or_self, if_true, if_false, reduceIte, not_true_eq_false, not_false_eq_true, Int.reduceEq, Int.reduceNe, Int.reduceLT, Int.reduceLE, Int.reduceAdd, Int.reduceSub, Int.reduceMul, Int.reduceNeg, Nat.reduceAdd, Nat.reduceLeDiff, Nat.reduceEqDiff, ne_eq, List.length_cons, List.length_nil, Nat.reduceSub, w32_lw (k := 1) h.i0 hi (by decide) (by decide), w32_lw (k := 2) h.i0 hi (by decide) (by decide), (show 0 ≤ i + 1 by omega), (show i + 1 < V 0 1 by omega), (show 0 ≤ i + 2 by omega), (show i + 2 < V 0 1 by omega)]
  refine pair_i (p_swap hI) (by decide) (by decide) (by decide +kernel) ?_
  intro x H1 hF h2
  have hz := hF.z
  have hs := hF.s
  simp only [rr, sh, Nat.reduceLT, Nat.reduceMul, Int.reduceToNat, Int.reduceGT, Int.reduceGE, Int.reduceNe, true_and, and_true, true_or, or_true, false_or, or_false, and_self, or_self, if_true, if_false, reduceIte, not_true_eq_false, not_false_eq_true, Int.reduceEq, Int.reduceNe, Int.reduceLT, Int.reduceLE, Int.reduceAdd, Int.reduceSub, Int.reduceMul, Int.reduceNeg, Nat.reduceAdd, Nat.reduceLeDiff, Nat.reduceEqDiff, ne_eq, List.length_cons, List.length_nil, Nat.reduceSub, hz, hs, w32_lw (k := 1) h.i0 hi (by decide) (by decide), w32_lw (k := 2) h.i0 hi (by decide) (by decide), (show 0 ≤ i + 1 by omega), (show i + 1 < V 0 1 by omega), (show 0 ≤ i + 2 by omega), (show i + 2 < V 0 1 by omega)]
  refine CC_mn h2 ?_
  rintro r2 H2 ⟨hF2, rfl, hI2⟩
  simp only [rr, sh, Nat.reduceLT, Nat.reduceMul, Int.reduceToNat, Int.reduceGT, Int.reduceGE, Int.reduceNe, true_and, and_true, true_or, or_true, false_or, or_false, and_self, or_self, if_true, if_false, reduceIte, not_true_eq_false, not_false_eq_true, Int.reduceEq, Int.reduceNe, Int.reduceLT, Int.reduceLE, Int.reduceAdd, Int.reduceSub, Int.reduceMul, Int.reduceNeg, Nat.reduceAdd, Nat.reduceLeDiff, Nat.reduceEqDiff, ne_eq, List.length_cons, List.length_nil, Nat.reduceSub, eq_self, e_LW_law_46, k_LW_law_46, w32_lw (k := 6) h.i0 hi (by decide) (by decide)]
  exact hn H2 hI2 hF2
set_option maxRecDepth 20000 in
theorem lw_b18 {d : Nat} {V : Hp} {i : Int} {Q : AV → Hp → Prop} (hI : Inv0 V) (h : Scr V i) (hn : LwN (d + 41) V i Q) : R (d + 41) LW_law (blk LW_law 18) [va 999, va 1, va 71, vi i] [] V Q := by
  have i0 := h.i0
  have i6 := h.i6
  have hi : i ≤ 3072 := Int.le_trans (by omega) h.mx
  simp only [e_LW_law_18, k_LW_law_18, rr, sh, Nat.reduceLT, Nat.reduceMul, Int.reduceToNat, Int.reduceGT, Int.reduceGE, Int.reduceNe, true_and, and_true, true_or, or_true, false_or, or_false, and_self, or_self, if_true, if_false, reduceIte, not_true_eq_false, not_false_eq_true, Int.reduceEq, Int.reduceNe, Int.reduceLT, Int.reduceLE, Int.reduceAdd, Int.reduceSub, Int.reduceMul, Int.reduceNeg, Nat.reduceAdd, Nat.reduceLeDiff, Nat.reduceEqDiff, ne_eq, List.length_cons, List.length_nil, Nat.reduceSub, w32_lw (k := 1) h.i0 hi (by decide) (by decide), (show 0 ≤ i + 1 by omega), (show i + 1 < V 0 1 by omega)]
  refine pair_i (p_stroke hI) (by decide) (by decide) (by decide +kernel) ?_
  intro x H1 hF h2
  have hz := hF.z
  have hs := hF.s
  simp only [rr, sh, Nat.reduceLT, Nat.reduceMul, Int.reduceToNat, Int.reduceGT, Int.reduceGE, Int.reduceNe, true_and, and_true, true_or, or_true, false_or, or_false, and_self, or_self, if_true, if_false, reduceIte, not_true_eq_false, not_false_eq_true, Int.reduceEq, Int.reduceNe, Int.reduceLT, Int.reduceLE, Int.reduceAdd, Int.reduceSub, Int.reduceMul, Int.reduceNeg, Nat.reduceAdd, Nat.reduceLeDiff, Nat.reduceEqDiff, ne_eq, List.length_cons, List.length_nil, Nat.reduceSub, hz, hs, w32_lw (k := 1) h.i0 hi (by decide) (by decide), (show 0 ≤ i + 1 by omega), (show i + 1 < V 0 1 by omega)]
  refine CC_mn h2 ?_
  rintro r2 H2 ⟨hF2, rfl, hI2⟩
  simp only [rr, sh, Nat.reduceLT, Nat.reduceMul, Int.reduceToNat, Int.reduceGT, Int.reduceGE, Int.reduceNe, true_and, and_true, true_or, or_true, false_or, or_false, and_self, or_self, if_true, if_false, reduceIte, not_true_eq_false, not_false_eq_true, Int.reduceEq, Int.reduceNe, Int.reduceLT, Int.reduceLE, Int.reduceAdd, Int.reduceSub, Int.reduceMul, Int.reduceNeg, Nat.reduceAdd, Nat.reduceLeDiff, Nat.reduceEqDiff, ne_eq, List.length_cons, List.length_nil, Nat.reduceSub, eq_self, e_LW_law_46, k_LW_law_46, w32_lw (k := 6) h.i0 hi (by decide) (by decide)]
  exact hn H2 hI2 hF2
set_option maxRecDepth 20000 in
theorem lw_b19 {d : Nat} {V : Hp} {i : Int} {Q : AV → Hp → Prop} (hI : Inv0 V) (h : Scr V i) (hn : LwN (d + 41) V i Q) : R (d + 41) LW_law (blk LW_law 19) [va 999, va 1, va 71, vi i] [] V Q := by
  have i0 := h.i0
  have i6 := h.i6
  have hi : i ≤ 3072 := Int.le_trans (by omega) h.mx
  simp only [e_LW_law_19, k_LW_law_19, rr, sh, Nat.reduceLT, Nat.reduceMul, Int.reduceToNat, Int.reduceGT, Int.reduceGE, Int.reduceNe, true_and, and_true, true_or, or_true, false_or, or_false, and_self, or_self, if_true, if_false, reduceIte, not_true_eq_false, not_false_eq_true, Int.reduceEq, Int.reduceNe, Int.reduceLT, Int.reduceLE, Int.reduceAdd, Int.reduceSub, Int.reduceMul, Int.reduceNeg, Nat.reduceAdd, Nat.reduceLeDiff, Nat.reduceEqDiff, ne_eq, List.length_cons, List.length_nil, Nat.reduceSub, w32_lw (k := 1) h.i0 hi (by decide) (by decide), (show 0 ≤ i + 1 by omega), (show i + 1 < V 0 1 by omega)]
  refine pair_l (p_row hI) (by decide) (by decide) (by decide +kernel) ?_
  intro x H1 hF h2
  have hz := hF.z
  have hs := hF.s
  simp only [rr, sh, Nat.reduceLT, Nat.reduceMul, Int.reduceToNat, Int.reduceGT, Int.reduceGE, Int.reduceNe, true_and, and_true, true_or, or_true, false_or, or_false, and_self, or_self, if_true, if_false, reduceIte, not_true_eq_false, not_false_eq_true, Int.reduceEq, Int.reduceNe, Int.reduceLT, Int.reduceLE, Int.reduceAdd, Int.reduceSub, Int.reduceMul, Int.reduceNeg, Nat.reduceAdd, Nat.reduceLeDiff, Nat.reduceEqDiff, ne_eq, List.length_cons, List.length_nil, Nat.reduceSub, hz, hs, w32_lw (k := 1) h.i0 hi (by decide) (by decide), (show 0 ≤ i + 1 by omega), (show i + 1 < V 0 1 by omega)]
  refine CC_mn h2 ?_
  rintro r2 H2 ⟨hF2, rfl, hI2⟩
  simp only [rr, sh, Nat.reduceLT, Nat.reduceMul, Int.reduceToNat, Int.reduceGT, Int.reduceGE, Int.reduceNe, true_and, and_true, true_or, or_true, false_or, or_false, and_self, or_self, if_true, if_false, reduceIte, not_true_eq_false, not_false_eq_true, Int.reduceEq, Int.reduceNe, Int.reduceLT, Int.reduceLE, Int.reduceAdd, Int.reduceSub, Int.reduceMul, Int.reduceNeg, Nat.reduceAdd, Nat.reduceLeDiff, Nat.reduceEqDiff, ne_eq, List.length_cons, List.length_nil, Nat.reduceSub, cmp3_s, e_LW_law_46, k_LW_law_46, w32_lw (k := 6) h.i0 hi (by decide) (by decide)]
  exact hn H2 hI2 hF2
set_option maxRecDepth 20000 in
theorem lw_b20 {d : Nat} {V : Hp} {i : Int} {Q : AV → Hp → Prop} (hI : Inv0 V) (h : Scr V i) (hn : LwN (d + 41) V i Q) : R (d + 41) LW_law (blk LW_law 20) [va 999, va 1, va 71, vi i] [] V Q := by
  have i0 := h.i0
  have i6 := h.i6
  have hi : i ≤ 3072 := Int.le_trans (by omega) h.mx
  simp only [e_LW_law_20, k_LW_law_20, rr, sh, Nat.reduceLT, Nat.reduceMul, Int.reduceToNat, Int.reduceGT, Int.reduceGE, Int.reduceNe, true_and, and_true, true_or, or_true, false_or, or_false, and_self, or_self, if_true, if_false, reduceIte, not_true_eq_false, not_false_eq_true, Int.reduceEq, Int.reduceNe, Int.reduceLT, Int.reduceLE, Int.reduceAdd, Int.reduceSub, Int.reduceMul, Int.reduceNeg, Nat.reduceAdd, Nat.reduceLeDiff, Nat.reduceEqDiff, ne_eq, List.length_cons, List.length_nil, Nat.reduceSub]
  refine pair_i (p_undo hI) (by decide) (by decide) (by decide +kernel) ?_
  intro x H1 hF h2
  have hz := hF.z
  have hs := hF.s
  simp only [rr, sh, Nat.reduceLT, Nat.reduceMul, Int.reduceToNat, Int.reduceGT, Int.reduceGE, Int.reduceNe, true_and, and_true, true_or, or_true, false_or, or_false, and_self, or_self, if_true, if_false, reduceIte, not_true_eq_false, not_false_eq_true, Int.reduceEq, Int.reduceNe, Int.reduceLT, Int.reduceLE, Int.reduceAdd, Int.reduceSub, Int.reduceMul, Int.reduceNeg, Nat.reduceAdd, Nat.reduceLeDiff, Nat.reduceEqDiff, ne_eq, List.length_cons, List.length_nil, Nat.reduceSub, hz, hs]
  refine CC_mn h2 ?_
  rintro r2 H2 ⟨hF2, rfl, hI2⟩
  simp only [rr, sh, Nat.reduceLT, Nat.reduceMul, Int.reduceToNat, Int.reduceGT, Int.reduceGE, Int.reduceNe, true_and, and_true, true_or, or_true, false_or, or_false, and_self, or_self, if_true, if_false, reduceIte, not_true_eq_false, not_false_eq_true, Int.reduceEq, Int.reduceNe, Int.reduceLT, Int.reduceLE, Int.reduceAdd, Int.reduceSub, Int.reduceMul, Int.reduceNeg, Nat.reduceAdd, Nat.reduceLeDiff, Nat.reduceEqDiff, ne_eq, List.length_cons, List.length_nil, Nat.reduceSub, eq_self, e_LW_law_46, k_LW_law_46, w32_lw (k := 6) h.i0 hi (by decide) (by decide)]
  exact hn H2 hI2 hF2
set_option maxRecDepth 20000 in
theorem lw_b21 {d : Nat} {V : Hp} {i : Int} {Q : AV → Hp → Prop} (hI : Inv0 V) (h : Scr V i) (hn : LwN (d + 41) V i Q) : R (d + 41) LW_law (blk LW_law 21) [va 999, va 1, va 71, vi i] [] V Q := by
  have i0 := h.i0
  have i6 := h.i6
  have hi : i ≤ 3072 := Int.le_trans (by omega) h.mx
  simp only [e_LW_law_21, k_LW_law_21, rr, sh, Nat.reduceLT, Nat.reduceMul, Int.reduceToNat, Int.reduceGT, Int.reduceGE, Int.reduceNe, true_and, and_true, true_or, or_true, false_or, or_false, and_self, or_self, if_true, if_false, reduceIte, not_true_eq_false, not_false_eq_true, Int.reduceEq, Int.reduceNe, Int.reduceLT, Int.reduceLE, Int.reduceAdd, Int.reduceSub, Int.reduceMul, Int.reduceNeg, Nat.reduceAdd, Nat.reduceLeDiff, Nat.reduceEqDiff, ne_eq, List.length_cons, List.length_nil, Nat.reduceSub, w32_lw (k := 1) h.i0 hi (by decide) (by decide), (show 0 ≤ i + 1 by omega), (show i + 1 < V 0 1 by omega)]
  refine pair_i (p_seed hI (h.sm _)) (by decide) (by decide) (by decide +kernel) ?_
  intro x H1 hF h2
  have hz := hF.z
  have hs := hF.s
  simp only [rr, sh, Nat.reduceLT, Nat.reduceMul, Int.reduceToNat, Int.reduceGT, Int.reduceGE, Int.reduceNe, true_and, and_true, true_or, or_true, false_or, or_false, and_self, or_self, if_true, if_false, reduceIte, not_true_eq_false, not_false_eq_true, Int.reduceEq, Int.reduceNe, Int.reduceLT, Int.reduceLE, Int.reduceAdd, Int.reduceSub, Int.reduceMul, Int.reduceNeg, Nat.reduceAdd, Nat.reduceLeDiff, Nat.reduceEqDiff, ne_eq, List.length_cons, List.length_nil, Nat.reduceSub, hz, hs, w32_lw (k := 1) h.i0 hi (by decide) (by decide), (show 0 ≤ i + 1 by omega), (show i + 1 < V 0 1 by omega)]
  refine CC_mn h2 ?_
  rintro r2 H2 ⟨hF2, rfl, hI2⟩
  simp only [rr, sh, Nat.reduceLT, Nat.reduceMul, Int.reduceToNat, Int.reduceGT, Int.reduceGE, Int.reduceNe, true_and, and_true, true_or, or_true, false_or, or_false, and_self, or_self, if_true, if_false, reduceIte, not_true_eq_false, not_false_eq_true, Int.reduceEq, Int.reduceNe, Int.reduceLT, Int.reduceLE, Int.reduceAdd, Int.reduceSub, Int.reduceMul, Int.reduceNeg, Nat.reduceAdd, Nat.reduceLeDiff, Nat.reduceEqDiff, ne_eq, List.length_cons, List.length_nil, Nat.reduceSub, eq_self, e_LW_law_46, k_LW_law_46, w32_lw (k := 6) h.i0 hi (by decide) (by decide)]
  exact hn H2 hI2 hF2
set_option maxRecDepth 20000 in
theorem lw_b22 {d : Nat} {V : Hp} {i : Int} {Q : AV → Hp → Prop} (hI : Inv0 V) (h : Scr V i) (hn : LwN (d + 41) V i Q) : R (d + 41) LW_law (blk LW_law 22) [va 999, va 1, va 71, vi i] [] V Q := by
  have i0 := h.i0
  have i6 := h.i6
  have hi : i ≤ 3072 := Int.le_trans (by omega) h.mx
  simp only [e_LW_law_22, k_LW_law_22, rr, sh, Nat.reduceLT, Nat.reduceMul, Int.reduceToNat, Int.reduceGT, Int.reduceGE, Int.reduceNe, true_and, and_true, true_or, or_true, false_or, or_false, and_self, or_self, if_true, if_false, reduceIte, not_true_eq_false, not_false_eq_true, Int.reduceEq, Int.reduceNe, Int.reduceLT, Int.reduceLE, Int.reduceAdd, Int.reduceSub, Int.reduceMul, Int.reduceNeg, Nat.reduceAdd, Nat.reduceLeDiff, Nat.reduceEqDiff, ne_eq, List.length_cons, List.length_nil, Nat.reduceSub, w32_lw (k := 1) h.i0 hi (by decide) (by decide), (show 0 ≤ i + 1 by omega), (show i + 1 < V 0 1 by omega)]
  refine pair_l (p_ways hI) (by decide) (by decide) (by decide +kernel) ?_
  intro x H1 hF h2
  have hz := hF.z
  have hs := hF.s
  simp only [rr, sh, Nat.reduceLT, Nat.reduceMul, Int.reduceToNat, Int.reduceGT, Int.reduceGE, Int.reduceNe, true_and, and_true, true_or, or_true, false_or, or_false, and_self, or_self, if_true, if_false, reduceIte, not_true_eq_false, not_false_eq_true, Int.reduceEq, Int.reduceNe, Int.reduceLT, Int.reduceLE, Int.reduceAdd, Int.reduceSub, Int.reduceMul, Int.reduceNeg, Nat.reduceAdd, Nat.reduceLeDiff, Nat.reduceEqDiff, ne_eq, List.length_cons, List.length_nil, Nat.reduceSub, hz, hs, w32_lw (k := 1) h.i0 hi (by decide) (by decide), (show 0 ≤ i + 1 by omega), (show i + 1 < V 0 1 by omega)]
  refine CC_mn h2 ?_
  rintro r2 H2 ⟨hF2, rfl, hI2⟩
  simp only [rr, sh, Nat.reduceLT, Nat.reduceMul, Int.reduceToNat, Int.reduceGT, Int.reduceGE, Int.reduceNe, true_and, and_true, true_or, or_true, false_or, or_false, and_self, or_self, if_true, if_false, reduceIte, not_true_eq_false, not_false_eq_true, Int.reduceEq, Int.reduceNe, Int.reduceLT, Int.reduceLE, Int.reduceAdd, Int.reduceSub, Int.reduceMul, Int.reduceNeg, Nat.reduceAdd, Nat.reduceLeDiff, Nat.reduceEqDiff, ne_eq, List.length_cons, List.length_nil, Nat.reduceSub, cmp3_s, e_LW_law_46, k_LW_law_46, w32_lw (k := 6) h.i0 hi (by decide) (by decide)]
  exact hn H2 hI2 hF2
set_option maxRecDepth 20000 in
theorem lw_b23 {d : Nat} {V : Hp} {i : Int} {Q : AV → Hp → Prop} (hI : Inv0 V) (h : Scr V i) (hn : LwN (d + 41) V i Q) : R (d + 41) LW_law (blk LW_law 23) [va 999, va 1, va 71, vi i] [] V Q := by
  have i0 := h.i0
  have i6 := h.i6
  have hi : i ≤ 3072 := Int.le_trans (by omega) h.mx
  simp only [e_LW_law_23, k_LW_law_23, rr, sh, Nat.reduceLT, Nat.reduceMul, Int.reduceToNat, Int.reduceGT, Int.reduceGE, Int.reduceNe, true_and, and_true, true_or, or_true, false_or, or_false, and_self, or_self, if_true, if_false, reduceIte, not_true_eq_false, not_false_eq_true, Int.reduceEq, Int.reduceNe, Int.reduceLT, Int.reduceLE, Int.reduceAdd, Int.reduceSub, Int.reduceMul, Int.reduceNeg, Nat.reduceAdd, Nat.reduceLeDiff, Nat.reduceEqDiff, ne_eq, List.length_cons, List.length_nil, Nat.reduceSub, w32_lw (k := 1) h.i0 hi (by decide) (by decide), w32_lw (k := 2) h.i0 hi (by decide) (by decide), (show 0 ≤ i + 1 by omega), (show i + 1 < V 0 1 by omega), (show 0 ≤ i + 2 by omega), (show i + 2 < V 0 1 by omega)]
  refine pair_i (p_made hI (h.sm _)) (by decide) (by decide) (by decide +kernel) ?_
  intro x H1 hF h2
  have hz := hF.z
  have hs := hF.s
  simp only [rr, sh, Nat.reduceLT, Nat.reduceMul, Int.reduceToNat, Int.reduceGT, Int.reduceGE, Int.reduceNe, true_and, and_true, true_or, or_true, false_or, or_false, and_self, or_self, if_true, if_false, reduceIte, not_true_eq_false, not_false_eq_true, Int.reduceEq, Int.reduceNe, Int.reduceLT, Int.reduceLE, Int.reduceAdd, Int.reduceSub, Int.reduceMul, Int.reduceNeg, Nat.reduceAdd, Nat.reduceLeDiff, Nat.reduceEqDiff, ne_eq, List.length_cons, List.length_nil, Nat.reduceSub, hz, hs, w32_lw (k := 1) h.i0 hi (by decide) (by decide), w32_lw (k := 2) h.i0 hi (by decide) (by decide), (show 0 ≤ i + 1 by omega), (show i + 1 < V 0 1 by omega), (show 0 ≤ i + 2 by omega), (show i + 2 < V 0 1 by omega)]
  refine CC_mn h2 ?_
  rintro r2 H2 ⟨hF2, rfl, hI2⟩
  simp only [rr, sh, Nat.reduceLT, Nat.reduceMul, Int.reduceToNat, Int.reduceGT, Int.reduceGE, Int.reduceNe, true_and, and_true, true_or, or_true, false_or, or_false, and_self, or_self, if_true, if_false, reduceIte, not_true_eq_false, not_false_eq_true, Int.reduceEq, Int.reduceNe, Int.reduceLT, Int.reduceLE, Int.reduceAdd, Int.reduceSub, Int.reduceMul, Int.reduceNeg, Nat.reduceAdd, Nat.reduceLeDiff, Nat.reduceEqDiff, ne_eq, List.length_cons, List.length_nil, Nat.reduceSub, eq_self, e_LW_law_46, k_LW_law_46, w32_lw (k := 6) h.i0 hi (by decide) (by decide)]
  exact hn H2 hI2 hF2
set_option maxRecDepth 20000 in
theorem lw_b24 {d : Nat} {V : Hp} {i : Int} {Q : AV → Hp → Prop} (hI : Inv0 V) (h : Scr V i) (hn : LwN (d + 41) V i Q) : R (d + 41) LW_law (blk LW_law 24) [va 999, va 1, va 71, vi i] [] V Q := by
  have i0 := h.i0
  have i6 := h.i6
  have hi : i ≤ 3072 := Int.le_trans (by omega) h.mx
  simp only [e_LW_law_24, k_LW_law_24, rr, sh, Nat.reduceLT, Nat.reduceMul, Int.reduceToNat, Int.reduceGT, Int.reduceGE, Int.reduceNe, true_and, and_true, true_or, or_true, false_or, or_false, and_self, or_self, if_true, if_false, reduceIte, not_true_eq_false, not_false_eq_true, Int.reduceEq, Int.reduceNe, Int.reduceLT, Int.reduceLE, Int.reduceAdd, Int.reduceSub, Int.reduceMul, Int.reduceNeg, Nat.reduceAdd, Nat.reduceLeDiff, Nat.reduceEqDiff, ne_eq, List.length_cons, List.length_nil, Nat.reduceSub, w32_lw (k := 1) h.i0 hi (by decide) (by decide), w32_lw (k := 2) h.i0 hi (by decide) (by decide), (show 0 ≤ i + 1 by omega), (show i + 1 < V 0 1 by omega), (show 0 ≤ i + 2 by omega), (show i + 2 < V 0 1 by omega)]
  refine pair_l (p_doubled hI) (by decide) (by decide) (by decide +kernel) ?_
  intro x H1 hF h2
  have hz := hF.z
  have hs := hF.s
  simp only [rr, sh, Nat.reduceLT, Nat.reduceMul, Int.reduceToNat, Int.reduceGT, Int.reduceGE, Int.reduceNe, true_and, and_true, true_or, or_true, false_or, or_false, and_self, or_self, if_true, if_false, reduceIte, not_true_eq_false, not_false_eq_true, Int.reduceEq, Int.reduceNe, Int.reduceLT, Int.reduceLE, Int.reduceAdd, Int.reduceSub, Int.reduceMul, Int.reduceNeg, Nat.reduceAdd, Nat.reduceLeDiff, Nat.reduceEqDiff, ne_eq, List.length_cons, List.length_nil, Nat.reduceSub, hz, hs, w32_lw (k := 1) h.i0 hi (by decide) (by decide), w32_lw (k := 2) h.i0 hi (by decide) (by decide), (show 0 ≤ i + 1 by omega), (show i + 1 < V 0 1 by omega), (show 0 ≤ i + 2 by omega), (show i + 2 < V 0 1 by omega)]
  refine CC_mn h2 ?_
  rintro r2 H2 ⟨hF2, rfl, hI2⟩
  simp only [rr, sh, Nat.reduceLT, Nat.reduceMul, Int.reduceToNat, Int.reduceGT, Int.reduceGE, Int.reduceNe, true_and, and_true, true_or, or_true, false_or, or_false, and_self, or_self, if_true, if_false, reduceIte, not_true_eq_false, not_false_eq_true, Int.reduceEq, Int.reduceNe, Int.reduceLT, Int.reduceLE, Int.reduceAdd, Int.reduceSub, Int.reduceMul, Int.reduceNeg, Nat.reduceAdd, Nat.reduceLeDiff, Nat.reduceEqDiff, ne_eq, List.length_cons, List.length_nil, Nat.reduceSub, cmp3_s, e_LW_law_46, k_LW_law_46, w32_lw (k := 6) h.i0 hi (by decide) (by decide)]
  exact hn H2 hI2 hF2
set_option maxRecDepth 20000 in
theorem lw_b25 {d : Nat} {V : Hp} {i : Int} {Q : AV → Hp → Prop} (hI : Inv0 V) (h : Scr V i) (hn : LwN (d + 41) V i Q) : R (d + 41) LW_law (blk LW_law 25) [va 999, va 1, va 71, vi i] [] V Q := by
  have i0 := h.i0
  have i6 := h.i6
  have hi : i ≤ 3072 := Int.le_trans (by omega) h.mx
  simp only [e_LW_law_25, k_LW_law_25, rr, sh, Nat.reduceLT, Nat.reduceMul, Int.reduceToNat, Int.reduceGT, Int.reduceGE, Int.reduceNe, true_and, and_true, true_or, or_true, false_or, or_false, and_self, or_self, if_true, if_false, reduceIte, not_true_eq_false, not_false_eq_true, Int.reduceEq, Int.reduceNe, Int.reduceLT, Int.reduceLE, Int.reduceAdd, Int.reduceSub, Int.reduceMul, Int.reduceNeg, Nat.reduceAdd, Nat.reduceLeDiff, Nat.reduceEqDiff, ne_eq, List.length_cons, List.length_nil, Nat.reduceSub, w32_lw (k := 1) h.i0 hi (by decide) (by decide), w32_lw (k := 2) h.i0 hi (by decide) (by decide), (show 0 ≤ i + 1 by omega), (show i + 1 < V 0 1 by omega), (show 0 ≤ i + 2 by omega), (show i + 2 < V 0 1 by omega)]
  refine pair_i (p_still hI) (by decide) (by decide) (by decide +kernel) ?_
  intro x H1 hF h2
  have hz := hF.z
  have hs := hF.s
  simp only [rr, sh, Nat.reduceLT, Nat.reduceMul, Int.reduceToNat, Int.reduceGT, Int.reduceGE, Int.reduceNe, true_and, and_true, true_or, or_true, false_or, or_false, and_self, or_self, if_true, if_false, reduceIte, not_true_eq_false, not_false_eq_true, Int.reduceEq, Int.reduceNe, Int.reduceLT, Int.reduceLE, Int.reduceAdd, Int.reduceSub, Int.reduceMul, Int.reduceNeg, Nat.reduceAdd, Nat.reduceLeDiff, Nat.reduceEqDiff, ne_eq, List.length_cons, List.length_nil, Nat.reduceSub, hz, hs, w32_lw (k := 1) h.i0 hi (by decide) (by decide), w32_lw (k := 2) h.i0 hi (by decide) (by decide), (show 0 ≤ i + 1 by omega), (show i + 1 < V 0 1 by omega), (show 0 ≤ i + 2 by omega), (show i + 2 < V 0 1 by omega)]
  refine CC_mn h2 ?_
  rintro r2 H2 ⟨hF2, rfl, hI2⟩
  simp only [rr, sh, Nat.reduceLT, Nat.reduceMul, Int.reduceToNat, Int.reduceGT, Int.reduceGE, Int.reduceNe, true_and, and_true, true_or, or_true, false_or, or_false, and_self, or_self, if_true, if_false, reduceIte, not_true_eq_false, not_false_eq_true, Int.reduceEq, Int.reduceNe, Int.reduceLT, Int.reduceLE, Int.reduceAdd, Int.reduceSub, Int.reduceMul, Int.reduceNeg, Nat.reduceAdd, Nat.reduceLeDiff, Nat.reduceEqDiff, ne_eq, List.length_cons, List.length_nil, Nat.reduceSub, eq_self, e_LW_law_46, k_LW_law_46, w32_lw (k := 6) h.i0 hi (by decide) (by decide)]
  exact hn H2 hI2 hF2
set_option maxRecDepth 20000 in
theorem lw_b26 {d : Nat} {V : Hp} {i : Int} {Q : AV → Hp → Prop} (hI : Inv0 V) (h : Scr V i) (hn : LwN (d + 41) V i Q) : R (d + 41) LW_law (blk LW_law 26) [va 999, va 1, va 71, vi i] [] V Q := by
  have i0 := h.i0
  have i6 := h.i6
  have hi : i ≤ 3072 := Int.le_trans (by omega) h.mx
  simp only [e_LW_law_26, k_LW_law_26, rr, sh, Nat.reduceLT, Nat.reduceMul, Int.reduceToNat, Int.reduceGT, Int.reduceGE, Int.reduceNe, true_and, and_true, true_or, or_true, false_or, or_false, and_self, or_self, if_true, if_false, reduceIte, not_true_eq_false, not_false_eq_true, Int.reduceEq, Int.reduceNe, Int.reduceLT, Int.reduceLE, Int.reduceAdd, Int.reduceSub, Int.reduceMul, Int.reduceNeg, Nat.reduceAdd, Nat.reduceLeDiff, Nat.reduceEqDiff, ne_eq, List.length_cons, List.length_nil, Nat.reduceSub, w32_lw (k := 1) h.i0 hi (by decide) (by decide), (show 0 ≤ i + 1 by omega), (show i + 1 < V 0 1 by omega)]
  refine pair_l (p_nearest hI) (by decide) (by decide) (by decide +kernel) ?_
  intro x H1 hF h2
  have hz := hF.z
  have hs := hF.s
  simp only [rr, sh, Nat.reduceLT, Nat.reduceMul, Int.reduceToNat, Int.reduceGT, Int.reduceGE, Int.reduceNe, true_and, and_true, true_or, or_true, false_or, or_false, and_self, or_self, if_true, if_false, reduceIte, not_true_eq_false, not_false_eq_true, Int.reduceEq, Int.reduceNe, Int.reduceLT, Int.reduceLE, Int.reduceAdd, Int.reduceSub, Int.reduceMul, Int.reduceNeg, Nat.reduceAdd, Nat.reduceLeDiff, Nat.reduceEqDiff, ne_eq, List.length_cons, List.length_nil, Nat.reduceSub, hz, hs, w32_lw (k := 1) h.i0 hi (by decide) (by decide), (show 0 ≤ i + 1 by omega), (show i + 1 < V 0 1 by omega)]
  refine CC_mn h2 ?_
  rintro r2 H2 ⟨hF2, rfl, hI2⟩
  simp only [rr, sh, Nat.reduceLT, Nat.reduceMul, Int.reduceToNat, Int.reduceGT, Int.reduceGE, Int.reduceNe, true_and, and_true, true_or, or_true, false_or, or_false, and_self, or_self, if_true, if_false, reduceIte, not_true_eq_false, not_false_eq_true, Int.reduceEq, Int.reduceNe, Int.reduceLT, Int.reduceLE, Int.reduceAdd, Int.reduceSub, Int.reduceMul, Int.reduceNeg, Nat.reduceAdd, Nat.reduceLeDiff, Nat.reduceEqDiff, ne_eq, List.length_cons, List.length_nil, Nat.reduceSub, cmp3_s, e_LW_law_46, k_LW_law_46, w32_lw (k := 6) h.i0 hi (by decide) (by decide)]
  exact hn H2 hI2 hF2
set_option maxRecDepth 20000 in
theorem lw_b27 {d : Nat} {V : Hp} {i : Int} {Q : AV → Hp → Prop} (hI : Inv0 V) (h : Scr V i) (hn : LwN (d + 41) V i Q) : R (d + 41) LW_law (blk LW_law 27) [va 999, va 1, va 71, vi i] [] V Q := by
  have i0 := h.i0
  have i6 := h.i6
  have hi : i ≤ 3072 := Int.le_trans (by omega) h.mx
  simp only [e_LW_law_27, k_LW_law_27, rr, sh, Nat.reduceLT, Nat.reduceMul, Int.reduceToNat, Int.reduceGT, Int.reduceGE, Int.reduceNe, true_and, and_true, true_or, or_true, false_or, or_false, and_self, or_self, if_true, if_false, reduceIte, not_true_eq_false, not_false_eq_true, Int.reduceEq, Int.reduceNe, Int.reduceLT, Int.reduceLE, Int.reduceAdd, Int.reduceSub, Int.reduceMul, Int.reduceNeg, Nat.reduceAdd, Nat.reduceLeDiff, Nat.reduceEqDiff, ne_eq, List.length_cons, List.length_nil, Nat.reduceSub, w32_lw (k := 1) h.i0 hi (by decide) (by decide), (show 0 ≤ i + 1 by omega), (show i + 1 < V 0 1 by omega)]
  refine pair_l (p_seated hI) (by decide) (by decide) (by decide +kernel) ?_
  intro x H1 hF h2
  have hz := hF.z
  have hs := hF.s
  simp only [rr, sh, Nat.reduceLT, Nat.reduceMul, Int.reduceToNat, Int.reduceGT, Int.reduceGE, Int.reduceNe, true_and, and_true, true_or, or_true, false_or, or_false, and_self, or_self, if_true, if_false, reduceIte, not_true_eq_false, not_false_eq_true, Int.reduceEq, Int.reduceNe, Int.reduceLT, Int.reduceLE, Int.reduceAdd, Int.reduceSub, Int.reduceMul, Int.reduceNeg, Nat.reduceAdd, Nat.reduceLeDiff, Nat.reduceEqDiff, ne_eq, List.length_cons, List.length_nil, Nat.reduceSub, hz, hs, w32_lw (k := 1) h.i0 hi (by decide) (by decide), (show 0 ≤ i + 1 by omega), (show i + 1 < V 0 1 by omega)]
  refine CC_mn h2 ?_
  rintro r2 H2 ⟨hF2, rfl, hI2⟩
  simp only [rr, sh, Nat.reduceLT, Nat.reduceMul, Int.reduceToNat, Int.reduceGT, Int.reduceGE, Int.reduceNe, true_and, and_true, true_or, or_true, false_or, or_false, and_self, or_self, if_true, if_false, reduceIte, not_true_eq_false, not_false_eq_true, Int.reduceEq, Int.reduceNe, Int.reduceLT, Int.reduceLE, Int.reduceAdd, Int.reduceSub, Int.reduceMul, Int.reduceNeg, Nat.reduceAdd, Nat.reduceLeDiff, Nat.reduceEqDiff, ne_eq, List.length_cons, List.length_nil, Nat.reduceSub, cmp3_s, e_LW_law_46, k_LW_law_46, w32_lw (k := 6) h.i0 hi (by decide) (by decide)]
  exact hn H2 hI2 hF2
set_option maxRecDepth 20000 in
theorem lw_b28 {d : Nat} {V : Hp} {i : Int} {Q : AV → Hp → Prop} (hI : Inv0 V) (h : Scr V i) (hn : LwN (d + 41) V i Q) : R (d + 41) LW_law (blk LW_law 28) [va 999, va 1, va 71, vi i] [] V Q := by
  have i0 := h.i0
  have i6 := h.i6
  have hi : i ≤ 3072 := Int.le_trans (by omega) h.mx
  simp only [e_LW_law_28, k_LW_law_28, rr, sh, Nat.reduceLT, Nat.reduceMul, Int.reduceToNat, Int.reduceGT, Int.reduceGE, Int.reduceNe, true_and, and_true, true_or, or_true, false_or, or_false, and_self, or_self, if_true, if_false, reduceIte, not_true_eq_false, not_false_eq_true, Int.reduceEq, Int.reduceNe, Int.reduceLT, Int.reduceLE, Int.reduceAdd, Int.reduceSub, Int.reduceMul, Int.reduceNeg, Nat.reduceAdd, Nat.reduceLeDiff, Nat.reduceEqDiff, ne_eq, List.length_cons, List.length_nil, Nat.reduceSub]
  refine pair_i (p_changes hI) (by decide) (by decide) (by decide +kernel) ?_
  intro x H1 hF h2
  have hz := hF.z
  have hs := hF.s
  simp only [rr, sh, Nat.reduceLT, Nat.reduceMul, Int.reduceToNat, Int.reduceGT, Int.reduceGE, Int.reduceNe, true_and, and_true, true_or, or_true, false_or, or_false, and_self, or_self, if_true, if_false, reduceIte, not_true_eq_false, not_false_eq_true, Int.reduceEq, Int.reduceNe, Int.reduceLT, Int.reduceLE, Int.reduceAdd, Int.reduceSub, Int.reduceMul, Int.reduceNeg, Nat.reduceAdd, Nat.reduceLeDiff, Nat.reduceEqDiff, ne_eq, List.length_cons, List.length_nil, Nat.reduceSub, hz, hs]
  refine CC_mn h2 ?_
  rintro r2 H2 ⟨hF2, rfl, hI2⟩
  simp only [rr, sh, Nat.reduceLT, Nat.reduceMul, Int.reduceToNat, Int.reduceGT, Int.reduceGE, Int.reduceNe, true_and, and_true, true_or, or_true, false_or, or_false, and_self, or_self, if_true, if_false, reduceIte, not_true_eq_false, not_false_eq_true, Int.reduceEq, Int.reduceNe, Int.reduceLT, Int.reduceLE, Int.reduceAdd, Int.reduceSub, Int.reduceMul, Int.reduceNeg, Nat.reduceAdd, Nat.reduceLeDiff, Nat.reduceEqDiff, ne_eq, List.length_cons, List.length_nil, Nat.reduceSub, eq_self, e_LW_law_46, k_LW_law_46, w32_lw (k := 6) h.i0 hi (by decide) (by decide)]
  exact hn H2 hI2 hF2
set_option maxRecDepth 20000 in
theorem lw_b29 {d : Nat} {V : Hp} {i : Int} {Q : AV → Hp → Prop} (hI : Inv0 V) (h : Scr V i) (hn : LwN (d + 41) V i Q) : R (d + 41) LW_law (blk LW_law 29) [va 999, va 1, va 71, vi i] [] V Q := by
  have i0 := h.i0
  have i6 := h.i6
  have hi : i ≤ 3072 := Int.le_trans (by omega) h.mx
  simp only [e_LW_law_29, k_LW_law_29, rr, sh, Nat.reduceLT, Nat.reduceMul, Int.reduceToNat, Int.reduceGT, Int.reduceGE, Int.reduceNe, true_and, and_true, true_or, or_true, false_or, or_false, and_self, or_self, if_true, if_false, reduceIte, not_true_eq_false, not_false_eq_true, Int.reduceEq, Int.reduceNe, Int.reduceLT, Int.reduceLE, Int.reduceAdd, Int.reduceSub, Int.reduceMul, Int.reduceNeg, Nat.reduceAdd, Nat.reduceLeDiff, Nat.reduceEqDiff, ne_eq, List.length_cons, List.length_nil, Nat.reduceSub, w32_lw (k := 1) h.i0 hi (by decide) (by decide), (show 0 ≤ i + 1 by omega), (show i + 1 < V 0 1 by omega)]
  refine pair_l (p_race hI) (by decide) (by decide) (by decide +kernel) ?_
  intro x H1 hF h2
  have hz := hF.z
  have hs := hF.s
  simp only [rr, sh, Nat.reduceLT, Nat.reduceMul, Int.reduceToNat, Int.reduceGT, Int.reduceGE, Int.reduceNe, true_and, and_true, true_or, or_true, false_or, or_false, and_self, or_self, if_true, if_false, reduceIte, not_true_eq_false, not_false_eq_true, Int.reduceEq, Int.reduceNe, Int.reduceLT, Int.reduceLE, Int.reduceAdd, Int.reduceSub, Int.reduceMul, Int.reduceNeg, Nat.reduceAdd, Nat.reduceLeDiff, Nat.reduceEqDiff, ne_eq, List.length_cons, List.length_nil, Nat.reduceSub, hz, hs, w32_lw (k := 1) h.i0 hi (by decide) (by decide), (show 0 ≤ i + 1 by omega), (show i + 1 < V 0 1 by omega)]
  refine CC_mn h2 ?_
  rintro r2 H2 ⟨hF2, rfl, hI2⟩
  simp only [rr, sh, Nat.reduceLT, Nat.reduceMul, Int.reduceToNat, Int.reduceGT, Int.reduceGE, Int.reduceNe, true_and, and_true, true_or, or_true, false_or, or_false, and_self, or_self, if_true, if_false, reduceIte, not_true_eq_false, not_false_eq_true, Int.reduceEq, Int.reduceNe, Int.reduceLT, Int.reduceLE, Int.reduceAdd, Int.reduceSub, Int.reduceMul, Int.reduceNeg, Nat.reduceAdd, Nat.reduceLeDiff, Nat.reduceEqDiff, ne_eq, List.length_cons, List.length_nil, Nat.reduceSub, cmp3_s, e_LW_law_46, k_LW_law_46, w32_lw (k := 6) h.i0 hi (by decide) (by decide)]
  exact hn H2 hI2 hF2
set_option maxRecDepth 20000 in
theorem lw_b30 {d : Nat} {V : Hp} {i : Int} {Q : AV → Hp → Prop} (hI : Inv0 V) (h : Scr V i) (hn : LwN (d + 41) V i Q) : R (d + 41) LW_law (blk LW_law 30) [va 999, va 1, va 71, vi i] [] V Q := by
  have i0 := h.i0
  have i6 := h.i6
  have hi : i ≤ 3072 := Int.le_trans (by omega) h.mx
  simp only [e_LW_law_30, k_LW_law_30, rr, sh, Nat.reduceLT, Nat.reduceMul, Int.reduceToNat, Int.reduceGT, Int.reduceGE, Int.reduceNe, true_and, and_true, true_or, or_true, false_or, or_false, and_self, or_self, if_true, if_false, reduceIte, not_true_eq_false, not_false_eq_true, Int.reduceEq, Int.reduceNe, Int.reduceLT, Int.reduceLE, Int.reduceAdd, Int.reduceSub, Int.reduceMul, Int.reduceNeg, Nat.reduceAdd, Nat.reduceLeDiff, Nat.reduceEqDiff, ne_eq, List.length_cons, List.length_nil, Nat.reduceSub, w32_lw (k := 1) h.i0 hi (by decide) (by decide), w32_lw (k := 2) h.i0 hi (by decide) (by decide), (show 0 ≤ i + 1 by omega), (show i + 1 < V 0 1 by omega), (show 0 ≤ i + 2 by omega), (show i + 2 < V 0 1 by omega)]
  refine pair_l (p_stillest hI) (by decide) (by decide) (by decide +kernel) ?_
  intro x H1 hF h2
  have hz := hF.z
  have hs := hF.s
  simp only [rr, sh, Nat.reduceLT, Nat.reduceMul, Int.reduceToNat, Int.reduceGT, Int.reduceGE, Int.reduceNe, true_and, and_true, true_or, or_true, false_or, or_false, and_self, or_self, if_true, if_false, reduceIte, not_true_eq_false, not_false_eq_true, Int.reduceEq, Int.reduceNe, Int.reduceLT, Int.reduceLE, Int.reduceAdd, Int.reduceSub, Int.reduceMul, Int.reduceNeg, Nat.reduceAdd, Nat.reduceLeDiff, Nat.reduceEqDiff, ne_eq, List.length_cons, List.length_nil, Nat.reduceSub, hz, hs, w32_lw (k := 1) h.i0 hi (by decide) (by decide), w32_lw (k := 2) h.i0 hi (by decide) (by decide), (show 0 ≤ i + 1 by omega), (show i + 1 < V 0 1 by omega), (show 0 ≤ i + 2 by omega), (show i + 2 < V 0 1 by omega)]
  refine CC_mn h2 ?_
  rintro r2 H2 ⟨hF2, rfl, hI2⟩
  simp only [rr, sh, Nat.reduceLT, Nat.reduceMul, Int.reduceToNat, Int.reduceGT, Int.reduceGE, Int.reduceNe, true_and, and_true, true_or, or_true, false_or, or_false, and_self, or_self, if_true, if_false, reduceIte, not_true_eq_false, not_false_eq_true, Int.reduceEq, Int.reduceNe, Int.reduceLT, Int.reduceLE, Int.reduceAdd, Int.reduceSub, Int.reduceMul, Int.reduceNeg, Nat.reduceAdd, Nat.reduceLeDiff, Nat.reduceEqDiff, ne_eq, List.length_cons, List.length_nil, Nat.reduceSub, cmp3_s, e_LW_law_46, k_LW_law_46, w32_lw (k := 6) h.i0 hi (by decide) (by decide)]
  exact hn H2 hI2 hF2
set_option maxRecDepth 20000 in
theorem lw_b31 {d : Nat} {V : Hp} {i : Int} {Q : AV → Hp → Prop} (hI : Inv0 V) (h : Scr V i) (hn : LwN (d + 41) V i Q) : R (d + 41) LW_law (blk LW_law 31) [va 999, va 1, va 71, vi i] [] V Q := by
  have i0 := h.i0
  have i6 := h.i6
  have hi : i ≤ 3072 := Int.le_trans (by omega) h.mx
  simp only [e_LW_law_31, k_LW_law_31, rr, sh, Nat.reduceLT, Nat.reduceMul, Int.reduceToNat, Int.reduceGT, Int.reduceGE, Int.reduceNe, true_and, and_true, true_or, or_true, false_or, or_false, and_self, or_self, if_true, if_false, reduceIte, not_true_eq_false, not_false_eq_true, Int.reduceEq, Int.reduceNe, Int.reduceLT, Int.reduceLE, Int.reduceAdd, Int.reduceSub, Int.reduceMul, Int.reduceNeg, Nat.reduceAdd, Nat.reduceLeDiff, Nat.reduceEqDiff, ne_eq, List.length_cons, List.length_nil, Nat.reduceSub, w32_lw (k := 1) h.i0 hi (by decide) (by decide), w32_lw (k := 2) h.i0 hi (by decide) (by decide), (show 0 ≤ i + 1 by omega), (show i + 1 < V 0 1 by omega), (show 0 ≤ i + 2 by omega), (show i + 2 < V 0 1 by omega)]
  refine pair_l (p_under hI) (by decide) (by decide) (by decide +kernel) ?_
  intro x H1 hF h2
  have hz := hF.z
  have hs := hF.s
  simp only [rr, sh, Nat.reduceLT, Nat.reduceMul, Int.reduceToNat, Int.reduceGT, Int.reduceGE, Int.reduceNe, true_and, and_true, true_or, or_true, false_or, or_false, and_self, or_self, if_true, if_false, reduceIte, not_true_eq_false, not_false_eq_true, Int.reduceEq, Int.reduceNe, Int.reduceLT, Int.reduceLE, Int.reduceAdd, Int.reduceSub, Int.reduceMul, Int.reduceNeg, Nat.reduceAdd, Nat.reduceLeDiff, Nat.reduceEqDiff, ne_eq, List.length_cons, List.length_nil, Nat.reduceSub, hz, hs, w32_lw (k := 1) h.i0 hi (by decide) (by decide), w32_lw (k := 2) h.i0 hi (by decide) (by decide), (show 0 ≤ i + 1 by omega), (show i + 1 < V 0 1 by omega), (show 0 ≤ i + 2 by omega), (show i + 2 < V 0 1 by omega)]
  refine CC_mn h2 ?_
  rintro r2 H2 ⟨hF2, rfl, hI2⟩
  simp only [rr, sh, Nat.reduceLT, Nat.reduceMul, Int.reduceToNat, Int.reduceGT, Int.reduceGE, Int.reduceNe, true_and, and_true, true_or, or_true, false_or, or_false, and_self, or_self, if_true, if_false, reduceIte, not_true_eq_false, not_false_eq_true, Int.reduceEq, Int.reduceNe, Int.reduceLT, Int.reduceLE, Int.reduceAdd, Int.reduceSub, Int.reduceMul, Int.reduceNeg, Nat.reduceAdd, Nat.reduceLeDiff, Nat.reduceEqDiff, ne_eq, List.length_cons, List.length_nil, Nat.reduceSub, cmp3_s, e_LW_law_46, k_LW_law_46, w32_lw (k := 6) h.i0 hi (by decide) (by decide)]
  exact hn H2 hI2 hF2
set_option maxRecDepth 20000 in
theorem lw_b32 {d : Nat} {V : Hp} {i : Int} {Q : AV → Hp → Prop} (hI : Inv0 V) (h : Scr V i) (hn : LwN (d + 41) V i Q) : R (d + 41) LW_law (blk LW_law 32) [va 999, va 1, va 71, vi i] [] V Q := by
  have i0 := h.i0
  have i6 := h.i6
  have hi : i ≤ 3072 := Int.le_trans (by omega) h.mx
  simp only [e_LW_law_32, k_LW_law_32, rr, sh, Nat.reduceLT, Nat.reduceMul, Int.reduceToNat, Int.reduceGT, Int.reduceGE, Int.reduceNe, true_and, and_true, true_or, or_true, false_or, or_false, and_self, or_self, if_true, if_false, reduceIte, not_true_eq_false, not_false_eq_true, Int.reduceEq, Int.reduceNe, Int.reduceLT, Int.reduceLE, Int.reduceAdd, Int.reduceSub, Int.reduceMul, Int.reduceNeg, Nat.reduceAdd, Nat.reduceLeDiff, Nat.reduceEqDiff, ne_eq, List.length_cons, List.length_nil, Nat.reduceSub]
  refine pair_i (p_fits hI) (by decide) (by decide) (by decide +kernel) ?_
  intro x H1 hF h2
  have hz := hF.z
  have hs := hF.s
  simp only [rr, sh, Nat.reduceLT, Nat.reduceMul, Int.reduceToNat, Int.reduceGT, Int.reduceGE, Int.reduceNe, true_and, and_true, true_or, or_true, false_or, or_false, and_self, or_self, if_true, if_false, reduceIte, not_true_eq_false, not_false_eq_true, Int.reduceEq, Int.reduceNe, Int.reduceLT, Int.reduceLE, Int.reduceAdd, Int.reduceSub, Int.reduceMul, Int.reduceNeg, Nat.reduceAdd, Nat.reduceLeDiff, Nat.reduceEqDiff, ne_eq, List.length_cons, List.length_nil, Nat.reduceSub, hz, hs]
  refine CC_mn h2 ?_
  rintro r2 H2 ⟨hF2, rfl, hI2⟩
  simp only [rr, sh, Nat.reduceLT, Nat.reduceMul, Int.reduceToNat, Int.reduceGT, Int.reduceGE, Int.reduceNe, true_and, and_true, true_or, or_true, false_or, or_false, and_self, or_self, if_true, if_false, reduceIte, not_true_eq_false, not_false_eq_true, Int.reduceEq, Int.reduceNe, Int.reduceLT, Int.reduceLE, Int.reduceAdd, Int.reduceSub, Int.reduceMul, Int.reduceNeg, Nat.reduceAdd, Nat.reduceLeDiff, Nat.reduceEqDiff, ne_eq, List.length_cons, List.length_nil, Nat.reduceSub, eq_self, e_LW_law_46, k_LW_law_46, w32_lw (k := 6) h.i0 hi (by decide) (by decide)]
  exact hn H2 hI2 hF2
set_option maxRecDepth 20000 in
theorem lw_b33 {d : Nat} {V : Hp} {i : Int} {Q : AV → Hp → Prop} (hI : Inv0 V) (h : Scr V i) (hn : LwN (d + 41) V i Q) : R (d + 41) LW_law (blk LW_law 33) [va 999, va 1, va 71, vi i] [] V Q := by
  have i0 := h.i0
  have i6 := h.i6
  have hi : i ≤ 3072 := Int.le_trans (by omega) h.mx
  simp only [e_LW_law_33, k_LW_law_33, rr, sh, Nat.reduceLT, Nat.reduceMul, Int.reduceToNat, Int.reduceGT, Int.reduceGE, Int.reduceNe, true_and, and_true, true_or, or_true, false_or, or_false, and_self, or_self, if_true, if_false, reduceIte, not_true_eq_false, not_false_eq_true, Int.reduceEq, Int.reduceNe, Int.reduceLT, Int.reduceLE, Int.reduceAdd, Int.reduceSub, Int.reduceMul, Int.reduceNeg, Nat.reduceAdd, Nat.reduceLeDiff, Nat.reduceEqDiff, ne_eq, List.length_cons, List.length_nil, Nat.reduceSub, w32_lw (k := 1) h.i0 hi (by decide) (by decide), w32_lw (k := 2) h.i0 hi (by decide) (by decide), (show 0 ≤ i + 1 by omega), (show i + 1 < V 0 1 by omega), (show 0 ≤ i + 2 by omega), (show i + 2 < V 0 1 by omega)]
  refine pair_i (p_strengths hI) (by decide) (by decide) (by decide +kernel) ?_
  intro x H1 hF h2
  have hz := hF.z
  have hs := hF.s
  simp only [rr, sh, Nat.reduceLT, Nat.reduceMul, Int.reduceToNat, Int.reduceGT, Int.reduceGE, Int.reduceNe, true_and, and_true, true_or, or_true, false_or, or_false, and_self, or_self, if_true, if_false, reduceIte, not_true_eq_false, not_false_eq_true, Int.reduceEq, Int.reduceNe, Int.reduceLT, Int.reduceLE, Int.reduceAdd, Int.reduceSub, Int.reduceMul, Int.reduceNeg, Nat.reduceAdd, Nat.reduceLeDiff, Nat.reduceEqDiff, ne_eq, List.length_cons, List.length_nil, Nat.reduceSub, hz, hs, w32_lw (k := 1) h.i0 hi (by decide) (by decide), w32_lw (k := 2) h.i0 hi (by decide) (by decide), (show 0 ≤ i + 1 by omega), (show i + 1 < V 0 1 by omega), (show 0 ≤ i + 2 by omega), (show i + 2 < V 0 1 by omega)]
  refine CC_mn h2 ?_
  rintro r2 H2 ⟨hF2, rfl, hI2⟩
  simp only [rr, sh, Nat.reduceLT, Nat.reduceMul, Int.reduceToNat, Int.reduceGT, Int.reduceGE, Int.reduceNe, true_and, and_true, true_or, or_true, false_or, or_false, and_self, or_self, if_true, if_false, reduceIte, not_true_eq_false, not_false_eq_true, Int.reduceEq, Int.reduceNe, Int.reduceLT, Int.reduceLE, Int.reduceAdd, Int.reduceSub, Int.reduceMul, Int.reduceNeg, Nat.reduceAdd, Nat.reduceLeDiff, Nat.reduceEqDiff, ne_eq, List.length_cons, List.length_nil, Nat.reduceSub, eq_self, e_LW_law_46, k_LW_law_46, w32_lw (k := 6) h.i0 hi (by decide) (by decide)]
  exact hn H2 hI2 hF2
set_option maxRecDepth 20000 in
theorem lw_b34 {d : Nat} {V : Hp} {i : Int} {Q : AV → Hp → Prop} (hI : Inv0 V) (h : Scr V i) (hn : LwN (d + 41) V i Q) : R (d + 41) LW_law (blk LW_law 34) [va 999, va 1, va 71, vi i] [] V Q := by
  have i0 := h.i0
  have i6 := h.i6
  have hi : i ≤ 3072 := Int.le_trans (by omega) h.mx
  simp only [e_LW_law_34, k_LW_law_34, rr, sh, Nat.reduceLT, Nat.reduceMul, Int.reduceToNat, Int.reduceGT, Int.reduceGE, Int.reduceNe, true_and, and_true, true_or, or_true, false_or, or_false, and_self, or_self, if_true, if_false, reduceIte, not_true_eq_false, not_false_eq_true, Int.reduceEq, Int.reduceNe, Int.reduceLT, Int.reduceLE, Int.reduceAdd, Int.reduceSub, Int.reduceMul, Int.reduceNeg, Nat.reduceAdd, Nat.reduceLeDiff, Nat.reduceEqDiff, ne_eq, List.length_cons, List.length_nil, Nat.reduceSub]
  refine pair_i (p_crooked hI) (by decide) (by decide) (by decide +kernel) ?_
  intro x H1 hF h2
  have hz := hF.z
  have hs := hF.s
  simp only [rr, sh, Nat.reduceLT, Nat.reduceMul, Int.reduceToNat, Int.reduceGT, Int.reduceGE, Int.reduceNe, true_and, and_true, true_or, or_true, false_or, or_false, and_self, or_self, if_true, if_false, reduceIte, not_true_eq_false, not_false_eq_true, Int.reduceEq, Int.reduceNe, Int.reduceLT, Int.reduceLE, Int.reduceAdd, Int.reduceSub, Int.reduceMul, Int.reduceNeg, Nat.reduceAdd, Nat.reduceLeDiff, Nat.reduceEqDiff, ne_eq, List.length_cons, List.length_nil, Nat.reduceSub, hz, hs]
  refine CC_mn h2 ?_
  rintro r2 H2 ⟨hF2, rfl, hI2⟩
  simp only [rr, sh, Nat.reduceLT, Nat.reduceMul, Int.reduceToNat, Int.reduceGT, Int.reduceGE, Int.reduceNe, true_and, and_true, true_or, or_true, false_or, or_false, and_self, or_self, if_true, if_false, reduceIte, not_true_eq_false, not_false_eq_true, Int.reduceEq, Int.reduceNe, Int.reduceLT, Int.reduceLE, Int.reduceAdd, Int.reduceSub, Int.reduceMul, Int.reduceNeg, Nat.reduceAdd, Nat.reduceLeDiff, Nat.reduceEqDiff, ne_eq, List.length_cons, List.length_nil, Nat.reduceSub, eq_self, e_LW_law_46, k_LW_law_46, w32_lw (k := 6) h.i0 hi (by decide) (by decide)]
  exact hn H2 hI2 hF2
set_option maxRecDepth 20000 in
theorem lw_b35 {d : Nat} {V : Hp} {i : Int} {Q : AV → Hp → Prop} (hI : Inv0 V) (h : Scr V i) (hn : LwN (d + 41) V i Q) : R (d + 41) LW_law (blk LW_law 35) [va 999, va 1, va 71, vi i] [] V Q := by
  have i0 := h.i0
  have i6 := h.i6
  have hi : i ≤ 3072 := Int.le_trans (by omega) h.mx
  simp only [e_LW_law_35, k_LW_law_35, rr, sh, Nat.reduceLT, Nat.reduceMul, Int.reduceToNat, Int.reduceGT, Int.reduceGE, Int.reduceNe, true_and, and_true, true_or, or_true, false_or, or_false, and_self, or_self, if_true, if_false, reduceIte, not_true_eq_false, not_false_eq_true, Int.reduceEq, Int.reduceNe, Int.reduceLT, Int.reduceLE, Int.reduceAdd, Int.reduceSub, Int.reduceMul, Int.reduceNeg, Nat.reduceAdd, Nat.reduceLeDiff, Nat.reduceEqDiff, ne_eq, List.length_cons, List.length_nil, Nat.reduceSub, w32_lw (k := 1) h.i0 hi (by decide) (by decide), (show 0 ≤ i + 1 by omega), (show i + 1 < V 0 1 by omega)]
  refine pair_i (p_heirs hI) (by decide) (by decide) (by decide +kernel) ?_
  intro x H1 hF h2
  have hz := hF.z
  have hs := hF.s
  simp only [rr, sh, Nat.reduceLT, Nat.reduceMul, Int.reduceToNat, Int.reduceGT, Int.reduceGE, Int.reduceNe, true_and, and_true, true_or, or_true, false_or, or_false, and_self, or_self, if_true, if_false, reduceIte, not_true_eq_false, not_false_eq_true, Int.reduceEq, Int.reduceNe, Int.reduceLT, Int.reduceLE, Int.reduceAdd, Int.reduceSub, Int.reduceMul, Int.reduceNeg, Nat.reduceAdd, Nat.reduceLeDiff, Nat.reduceEqDiff, ne_eq, List.length_cons, List.length_nil, Nat.reduceSub, hz, hs, w32_lw (k := 1) h.i0 hi (by decide) (by decide), (show 0 ≤ i + 1 by omega), (show i + 1 < V 0 1 by omega)]
  refine CC_mn h2 ?_
  rintro r2 H2 ⟨hF2, rfl, hI2⟩
  simp only [rr, sh, Nat.reduceLT, Nat.reduceMul, Int.reduceToNat, Int.reduceGT, Int.reduceGE, Int.reduceNe, true_and, and_true, true_or, or_true, false_or, or_false, and_self, or_self, if_true, if_false, reduceIte, not_true_eq_false, not_false_eq_true, Int.reduceEq, Int.reduceNe, Int.reduceLT, Int.reduceLE, Int.reduceAdd, Int.reduceSub, Int.reduceMul, Int.reduceNeg, Nat.reduceAdd, Nat.reduceLeDiff, Nat.reduceEqDiff, ne_eq, List.length_cons, List.length_nil, Nat.reduceSub, eq_self, e_LW_law_46, k_LW_law_46, w32_lw (k := 6) h.i0 hi (by decide) (by decide)]
  exact hn H2 hI2 hF2
set_option maxRecDepth 20000 in
theorem lw_b42 {d : Nat} {V : Hp} {i : Int} {Q : AV → Hp → Prop} (hI : Inv0 V) (h : Scr V i) (hn : LwN (d + 41) V i Q) : R (d + 41) LW_law (blk LW_law 42) [va 999, va 1, va 71, vi i] [] V Q := by
  have i0 := h.i0
  have i6 := h.i6
  have hi : i ≤ 3072 := Int.le_trans (by omega) h.mx
  simp only [e_LW_law_42, k_LW_law_42, rr, sh, Nat.reduceLT, Nat.reduceMul, Int.reduceToNat, Int.reduceGT, Int.reduceGE, Int.reduceNe, true_and, and_true, true_or, or_true, false_or, or_false, and_self, or_self, if_true, if_false, reduceIte, not_true_eq_false, not_false_eq_true, Int.reduceEq, Int.reduceNe, Int.reduceLT, Int.reduceLE, Int.reduceAdd, Int.reduceSub, Int.reduceMul, Int.reduceNeg, Nat.reduceAdd, Nat.reduceLeDiff, Nat.reduceEqDiff, ne_eq, List.length_cons, List.length_nil, Nat.reduceSub]
  refine pair_i (p_image hI) (by decide) (by decide) (by decide +kernel) ?_
  intro x H1 hF h2
  have hz := hF.z
  have hs := hF.s
  simp only [rr, sh, Nat.reduceLT, Nat.reduceMul, Int.reduceToNat, Int.reduceGT, Int.reduceGE, Int.reduceNe, true_and, and_true, true_or, or_true, false_or, or_false, and_self, or_self, if_true, if_false, reduceIte, not_true_eq_false, not_false_eq_true, Int.reduceEq, Int.reduceNe, Int.reduceLT, Int.reduceLE, Int.reduceAdd, Int.reduceSub, Int.reduceMul, Int.reduceNeg, Nat.reduceAdd, Nat.reduceLeDiff, Nat.reduceEqDiff, ne_eq, List.length_cons, List.length_nil, Nat.reduceSub, hz, hs]
  refine CC_mn h2 ?_
  rintro r2 H2 ⟨hF2, rfl, hI2⟩
  simp only [rr, sh, Nat.reduceLT, Nat.reduceMul, Int.reduceToNat, Int.reduceGT, Int.reduceGE, Int.reduceNe, true_and, and_true, true_or, or_true, false_or, or_false, and_self, or_self, if_true, if_false, reduceIte, not_true_eq_false, not_false_eq_true, Int.reduceEq, Int.reduceNe, Int.reduceLT, Int.reduceLE, Int.reduceAdd, Int.reduceSub, Int.reduceMul, Int.reduceNeg, Nat.reduceAdd, Nat.reduceLeDiff, Nat.reduceEqDiff, ne_eq, List.length_cons, List.length_nil, Nat.reduceSub, eq_self, e_LW_law_46, k_LW_law_46, w32_lw (k := 6) h.i0 hi (by decide) (by decide)]
  exact hn H2 hI2 hF2
set_option maxRecDepth 20000 in
theorem lw_b43 {d : Nat} {V : Hp} {i : Int} {Q : AV → Hp → Prop} (hI : Inv0 V) (h : Scr V i) (hn : LwN (d + 41) V i Q) : R (d + 41) LW_law (blk LW_law 43) [va 999, va 1, va 71, vi i] [] V Q := by
  have i0 := h.i0
  have i6 := h.i6
  have hi : i ≤ 3072 := Int.le_trans (by omega) h.mx
  simp only [e_LW_law_43, k_LW_law_43, rr, sh, Nat.reduceLT, Nat.reduceMul, Int.reduceToNat, Int.reduceGT, Int.reduceGE, Int.reduceNe, true_and, and_true, true_or, or_true, false_or, or_false, and_self, or_self, if_true, if_false, reduceIte, not_true_eq_false, not_false_eq_true, Int.reduceEq, Int.reduceNe, Int.reduceLT, Int.reduceLE, Int.reduceAdd, Int.reduceSub, Int.reduceMul, Int.reduceNeg, Nat.reduceAdd, Nat.reduceLeDiff, Nat.reduceEqDiff, ne_eq, List.length_cons, List.length_nil, Nat.reduceSub, w32_lw (k := 1) h.i0 hi (by decide) (by decide), (show 0 ≤ i + 1 by omega), (show i + 1 < V 0 1 by omega)]
  refine pair_i (p_octet hI) (by decide) (by decide) (by decide +kernel) ?_
  intro x H1 hF h2
  have hz := hF.z
  have hs := hF.s
  simp only [rr, sh, Nat.reduceLT, Nat.reduceMul, Int.reduceToNat, Int.reduceGT, Int.reduceGE, Int.reduceNe, true_and, and_true, true_or, or_true, false_or, or_false, and_self, or_self, if_true, if_false, reduceIte, not_true_eq_false, not_false_eq_true, Int.reduceEq, Int.reduceNe, Int.reduceLT, Int.reduceLE, Int.reduceAdd, Int.reduceSub, Int.reduceMul, Int.reduceNeg, Nat.reduceAdd, Nat.reduceLeDiff, Nat.reduceEqDiff, ne_eq, List.length_cons, List.length_nil, Nat.reduceSub, hz, hs, w32_lw (k := 1) h.i0 hi (by decide) (by decide), (show 0 ≤ i + 1 by omega), (show i + 1 < V 0 1 by omega)]
  refine CC_mn h2 ?_
  rintro r2 H2 ⟨hF2, rfl, hI2⟩
  simp only [rr, sh, Nat.reduceLT, Nat.reduceMul, Int.reduceToNat, Int.reduceGT, Int.reduceGE, Int.reduceNe, true_and, and_true, true_or, or_true, false_or, or_false, and_self, or_self, if_true, if_false, reduceIte, not_true_eq_false, not_false_eq_true, Int.reduceEq, Int.reduceNe, Int.reduceLT, Int.reduceLE, Int.reduceAdd, Int.reduceSub, Int.reduceMul, Int.reduceNeg, Nat.reduceAdd, Nat.reduceLeDiff, Nat.reduceEqDiff, ne_eq, List.length_cons, List.length_nil, Nat.reduceSub, eq_self, e_LW_law_46, k_LW_law_46, w32_lw (k := 6) h.i0 hi (by decide) (by decide)]
  exact hn H2 hI2 hF2
set_option maxRecDepth 20000 in
theorem lw_b44 {d : Nat} {V : Hp} {i : Int} {Q : AV → Hp → Prop} (hI : Inv0 V) (h : Scr V i) (hn : LwN (d + 41) V i Q) : R (d + 41) LW_law (blk LW_law 44) [va 999, va 1, va 71, vi i] [] V Q := by
  have i0 := h.i0
  have i6 := h.i6
  have hi : i ≤ 3072 := Int.le_trans (by omega) h.mx
  simp only [e_LW_law_44, k_LW_law_44, rr, sh, Nat.reduceLT, Nat.reduceMul, Int.reduceToNat, Int.reduceGT, Int.reduceGE, Int.reduceNe, true_and, and_true, true_or, or_true, false_or, or_false, and_self, or_self, if_true, if_false, reduceIte, not_true_eq_false, not_false_eq_true, Int.reduceEq, Int.reduceNe, Int.reduceLT, Int.reduceLE, Int.reduceAdd, Int.reduceSub, Int.reduceMul, Int.reduceNeg, Nat.reduceAdd, Nat.reduceLeDiff, Nat.reduceEqDiff, ne_eq, List.length_cons, List.length_nil, Nat.reduceSub]
  refine pair_i (p_on hI) (by decide) (by decide) (by decide +kernel) ?_
  intro x H1 hF h2
  have hz := hF.z
  have hs := hF.s
  simp only [rr, sh, Nat.reduceLT, Nat.reduceMul, Int.reduceToNat, Int.reduceGT, Int.reduceGE, Int.reduceNe, true_and, and_true, true_or, or_true, false_or, or_false, and_self, or_self, if_true, if_false, reduceIte, not_true_eq_false, not_false_eq_true, Int.reduceEq, Int.reduceNe, Int.reduceLT, Int.reduceLE, Int.reduceAdd, Int.reduceSub, Int.reduceMul, Int.reduceNeg, Nat.reduceAdd, Nat.reduceLeDiff, Nat.reduceEqDiff, ne_eq, List.length_cons, List.length_nil, Nat.reduceSub, hz, hs]
  refine CC_mn h2 ?_
  rintro r2 H2 ⟨hF2, rfl, hI2⟩
  simp only [rr, sh, Nat.reduceLT, Nat.reduceMul, Int.reduceToNat, Int.reduceGT, Int.reduceGE, Int.reduceNe, true_and, and_true, true_or, or_true, false_or, or_false, and_self, or_self, if_true, if_false, reduceIte, not_true_eq_false, not_false_eq_true, Int.reduceEq, Int.reduceNe, Int.reduceLT, Int.reduceLE, Int.reduceAdd, Int.reduceSub, Int.reduceMul, Int.reduceNeg, Nat.reduceAdd, Nat.reduceLeDiff, Nat.reduceEqDiff, ne_eq, List.length_cons, List.length_nil, Nat.reduceSub, eq_self, e_LW_law_46, k_LW_law_46, w32_lw (k := 6) h.i0 hi (by decide) (by decide)]
  exact hn H2 hI2 hF2
set_option maxRecDepth 20000 in
theorem lw_b45 {d : Nat} {V : Hp} {i : Int} {Q : AV → Hp → Prop} (hI : Inv0 V) (h : Scr V i) (hn : LwN (d + 41) V i Q) : R (d + 41) LW_law (blk LW_law 45) [va 999, va 1, va 71, vi i] [] V Q := by
  have i0 := h.i0
  have i6 := h.i6
  have hi : i ≤ 3072 := Int.le_trans (by omega) h.mx
  simp only [e_LW_law_45, k_LW_law_45, rr, sh, Nat.reduceLT, Nat.reduceMul, Int.reduceToNat, Int.reduceGT, Int.reduceGE, Int.reduceNe, true_and, and_true, true_or, or_true, false_or, or_false, and_self, or_self, if_true, if_false, reduceIte, not_true_eq_false, not_false_eq_true, Int.reduceEq, Int.reduceNe, Int.reduceLT, Int.reduceLE, Int.reduceAdd, Int.reduceSub, Int.reduceMul, Int.reduceNeg, Nat.reduceAdd, Nat.reduceLeDiff, Nat.reduceEqDiff, ne_eq, List.length_cons, List.length_nil, Nat.reduceSub, w32_lw (k := 1) h.i0 hi (by decide) (by decide), (show 0 ≤ i + 1 by omega), (show i + 1 < V 0 1 by omega)]
  refine pair_i (p_status hI) (by decide) (by decide) (by decide +kernel) ?_
  intro x H1 hF h2
  have hz := hF.z
  have hs := hF.s
  simp only [rr, sh, Nat.reduceLT, Nat.reduceMul, Int.reduceToNat, Int.reduceGT, Int.reduceGE, Int.reduceNe, true_and, and_true, true_or, or_true, false_or, or_false, and_self, or_self, if_true, if_false, reduceIte, not_true_eq_false, not_false_eq_true, Int.reduceEq, Int.reduceNe, Int.reduceLT, Int.reduceLE, Int.reduceAdd, Int.reduceSub, Int.reduceMul, Int.reduceNeg, Nat.reduceAdd, Nat.reduceLeDiff, Nat.reduceEqDiff, ne_eq, List.length_cons, List.length_nil, Nat.reduceSub, hz, hs, w32_lw (k := 1) h.i0 hi (by decide) (by decide), (show 0 ≤ i + 1 by omega), (show i + 1 < V 0 1 by omega)]
  refine CC_mn h2 ?_
  rintro r2 H2 ⟨hF2, rfl, hI2⟩
  simp only [rr, sh, Nat.reduceLT, Nat.reduceMul, Int.reduceToNat, Int.reduceGT, Int.reduceGE, Int.reduceNe, true_and, and_true, true_or, or_true, false_or, or_false, and_self, or_self, if_true, if_false, reduceIte, not_true_eq_false, not_false_eq_true, Int.reduceEq, Int.reduceNe, Int.reduceLT, Int.reduceLE, Int.reduceAdd, Int.reduceSub, Int.reduceMul, Int.reduceNeg, Nat.reduceAdd, Nat.reduceLeDiff, Nat.reduceEqDiff, ne_eq, List.length_cons, List.length_nil, Nat.reduceSub, eq_self, e_LW_law_46, k_LW_law_46, w32_lw (k := 6) h.i0 hi (by decide) (by decide)]
  exact hn H2 hI2 hF2
set_option maxRecDepth 20000 in
theorem lw_b4 {d : Nat} {V : Hp} {i : Int} {Q : AV → Hp → Prop} (hI : Inv0 V) (h : Scr V i) (hn : LwN (d + 41) V i Q) (hp : Pair V (d + 40) EO_text MO_text [va 1] [va 71]) : R (d + 41) LW_law (blk LW_law 4) [va 999, va 1, va 71, vi i] [] V Q := by
  have i0 := h.i0
  have i6 := h.i6
  have hi : i ≤ 3072 := Int.le_trans (by omega) h.mx
  simp only [e_LW_law_4, k_LW_law_4, rr, sh, Nat.reduceLT, Nat.reduceMul, Int.reduceToNat, Int.reduceGT, Int.reduceGE, Int.reduceNe, true_and, and_true, true_or, or_true, false_or, or_false, and_self, or_self, if_true, if_false, reduceIte, not_true_eq_false, not_false_eq_true, Int.reduceEq, Int.reduceNe, Int.reduceLT, Int.reduceLE, Int.reduceAdd, Int.reduceSub, Int.reduceMul, Int.reduceNeg, Nat.reduceAdd, Nat.reduceLeDiff, Nat.reduceEqDiff, ne_eq, List.length_cons, List.length_nil, Nat.reduceSub]
  refine pair_i (hp) (by decide) (by decide) (by decide +kernel) ?_
  intro x H1 hF h2
  have hz := hF.z
  have hs := hF.s
  simp only [rr, sh, Nat.reduceLT, Nat.reduceMul, Int.reduceToNat, Int.reduceGT, Int.reduceGE, Int.reduceNe, true_and, and_true, true_or, or_true, false_or, or_false, and_self, or_self, if_true, if_false, reduceIte, not_true_eq_false, not_false_eq_true, Int.reduceEq, Int.reduceNe, Int.reduceLT, Int.reduceLE, Int.reduceAdd, Int.reduceSub, Int.reduceMul, Int.reduceNeg, Nat.reduceAdd, Nat.reduceLeDiff, Nat.reduceEqDiff, ne_eq, List.length_cons, List.length_nil, Nat.reduceSub, hz, hs]
  refine CC_mn h2 ?_
  rintro r2 H2 ⟨hF2, rfl, hI2⟩
  simp only [rr, sh, Nat.reduceLT, Nat.reduceMul, Int.reduceToNat, Int.reduceGT, Int.reduceGE, Int.reduceNe, true_and, and_true, true_or, or_true, false_or, or_false, and_self, or_self, if_true, if_false, reduceIte, not_true_eq_false, not_false_eq_true, Int.reduceEq, Int.reduceNe, Int.reduceLT, Int.reduceLE, Int.reduceAdd, Int.reduceSub, Int.reduceMul, Int.reduceNeg, Nat.reduceAdd, Nat.reduceLeDiff, Nat.reduceEqDiff, ne_eq, List.length_cons, List.length_nil, Nat.reduceSub, eq_self, e_LW_law_46, k_LW_law_46, w32_lw (k := 6) h.i0 hi (by decide) (by decide)]
  exact hn H2 hI2 hF2
set_option maxRecDepth 20000 in
theorem lw_b41 {d : Nat} {V : Hp} {i : Int} {Q : AV → Hp → Prop} (hI : Inv0 V) (h : Scr V i) (hn : LwN (d + 41) V i Q) (hp : Pair V (d + 40) EO_ask MO_ask [va 1] [va 71]) : R (d + 41) LW_law (blk LW_law 41) [va 999, va 1, va 71, vi i] [] V Q := by
  have i0 := h.i0
  have i6 := h.i6
  have hi : i ≤ 3072 := Int.le_trans (by omega) h.mx
  simp only [e_LW_law_41, k_LW_law_41, rr, sh, Nat.reduceLT, Nat.reduceMul, Int.reduceToNat, Int.reduceGT, Int.reduceGE, Int.reduceNe, true_and, and_true, true_or, or_true, false_or, or_false, and_self, or_self, if_true, if_false, reduceIte, not_true_eq_false, not_false_eq_true, Int.reduceEq, Int.reduceNe, Int.reduceLT, Int.reduceLE, Int.reduceAdd, Int.reduceSub, Int.reduceMul, Int.reduceNeg, Nat.reduceAdd, Nat.reduceLeDiff, Nat.reduceEqDiff, ne_eq, List.length_cons, List.length_nil, Nat.reduceSub]
  refine pair_l (hp) (by decide) (by decide) (by decide +kernel) ?_
  intro x H1 hF h2
  have hz := hF.z
  have hs := hF.s
  simp only [rr, sh, Nat.reduceLT, Nat.reduceMul, Int.reduceToNat, Int.reduceGT, Int.reduceGE, Int.reduceNe, true_and, and_true, true_or, or_true, false_or, or_false, and_self, or_self, if_true, if_false, reduceIte, not_true_eq_false, not_false_eq_true, Int.reduceEq, Int.reduceNe, Int.reduceLT, Int.reduceLE, Int.reduceAdd, Int.reduceSub, Int.reduceMul, Int.reduceNeg, Nat.reduceAdd, Nat.reduceLeDiff, Nat.reduceEqDiff, ne_eq, List.length_cons, List.length_nil, Nat.reduceSub, hz, hs]
  refine CC_mn h2 ?_
  rintro r2 H2 ⟨hF2, rfl, hI2⟩
  simp only [rr, sh, Nat.reduceLT, Nat.reduceMul, Int.reduceToNat, Int.reduceGT, Int.reduceGE, Int.reduceNe, true_and, and_true, true_or, or_true, false_or, or_false, and_self, or_self, if_true, if_false, reduceIte, not_true_eq_false, not_false_eq_true, Int.reduceEq, Int.reduceNe, Int.reduceLT, Int.reduceLE, Int.reduceAdd, Int.reduceSub, Int.reduceMul, Int.reduceNeg, Nat.reduceAdd, Nat.reduceLeDiff, Nat.reduceEqDiff, ne_eq, List.length_cons, List.length_nil, Nat.reduceSub, cmp3_s, e_LW_law_46, k_LW_law_46, w32_lw (k := 6) h.i0 hi (by decide) (by decide)]
  exact hn H2 hI2 hF2
