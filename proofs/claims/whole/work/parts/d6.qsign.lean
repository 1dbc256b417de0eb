/-! QUESTIONS: the reference behind a part: signs -/
section QZ3
variable {d : Nat} {V B : Hp} {K : Hp → Prop} {L : AV → Hp → Prop} {E : Hp → Prop} {a : Nat} {j : Int} {C W : List Int} {o b : Nat}
/-- the last that waits is none such -/
def tpN' (W : List Int) (p : Int → Prop) : Prop := W = [] ∨ ∃ W1 x, W = W1 ++ [x] ∧ ¬ p x
theorem q_on {H : Hp} {Q : AV → Hp → Prop} (hT : TapeR V) (hPB : Ptr B) (h : MQs V B H a j C W o b) {v : Int} {p : Int → Prop} (ht : tpN' W p) (hv : p v) : CC d MO_qIsOn [va 71, vi v] H Q = Q (vi 0) H := by
  rcases ht with rfl | ⟨W1, x, rfl, hx⟩
  · exact q_qIsOn0 h
  · rw [q_qIsOn hT hPB h, if_neg (fun z => hx (by rw [z]; exact hv))]
set_option maxRecDepth 20000 in
/-- * and / that wait are told -/
theorem c_dropT (hT : TapeR V) (hPB : Ptr B) {s : Int} {Q : AV → Hp → Prop} (ht : tpN' W (fun x => x = 3 ∨ x = 4)) : ∀ (r : List Int) (C : List Int) (H : Hp), (∀ x ∈ r, x = 3 ∨ x = 4) → MQs V B H a j C (W ++ r.reverse) o b → (∀ H', MQs V B H' a j (C ++ r) W o b → R (d + 3) MO_qGoesOn (blk MO_qGoesOn 11) [va 71, vi s] [] H' Q) → R (d + 3) MO_qGoesOn (blk MO_qGoesOn 9) [va 71, vi s] [] H Q
  | [], C, H, _, h, hQ => by
    rw [List.reverse_nil, List.append_nil] at h
    have := hQ H (by rw [List.append_nil]; exact h)
    have q3 := fun {Q} => q_on (d := d + 2) (Q := Q) hT hPB h ht (v := 3) (Or.inl rfl)
    have q4 := fun {Q} => q_on (d := d + 2) (Q := Q) hT hPB h ht (v := 4) (Or.inr rfl)
    rw [e_MO_qGoesOn_9]
    simp only [k_MO_qGoesOn_9, rr, sh, Nat.reduceLT, Nat.reduceMul, Int.reduceToNat, Int.reduceGT, Int.reduceGE, Int.reduceNe, true_and, and_true, true_or, or_true, false_or, or_false, and_self, or_self, if_true, if_false, reduceIte, not_true_eq_false, not_false_eq_true, Int.reduceEq, Int.reduceNe, Int.reduceLT, Int.reduceLE, Int.reduceAdd, Int.reduceSub, Int.reduceMul, Int.reduceNeg, Nat.reduceAdd, Nat.reduceLeDiff, Nat.reduceEqDiff, ne_eq, List.length_cons, List.length_nil, Nat.reduceSub, q3, q4]
    exact this
  | x :: r, C, H, hr, h, hQ => by
    rw [rev_c] at h
    have q3 := fun {Q} => q_qIsOn (d := d + 2) (Q := Q) hT hPB h (v := 3)
    have q4 := fun {Q} => q_qIsOn (d := d + 2) (Q := Q) hT hPB h (v := 4)
    have ih := fun H' h' => c_dropT hT hPB ht r (C ++ [x]) H' (fun y hy => hr y (List.mem_cons_of_mem _ hy)) h' (fun H2 h2 => hQ H2 (by rw [← app_c]; exact h2))
    have hx := hr x (List.mem_cons_self ..)
    clear hQ
    rw [e_MO_qGoesOn_9]
    rcases hx with rfl | rfl
    · simp only [k_MO_qGoesOn_9, e_MO_qGoesOn_10, k_MO_qGoesOn_10, rr, sh, Nat.reduceLT, Nat.reduceMul, Int.reduceToNat, Int.reduceGT, Int.reduceGE, Int.reduceNe, true_and, and_true, true_or, or_true, false_or, or_false, and_self, or_self, if_true, if_false, reduceIte, not_true_eq_false, not_false_eq_true, Int.reduceEq, Int.reduceNe, Int.reduceLT, Int.reduceLE, Int.reduceAdd, Int.reduceSub, Int.reduceMul, Int.reduceNeg, Nat.reduceAdd, Nat.reduceLeDiff, Nat.reduceEqDiff, ne_eq, List.length_cons, List.length_nil, Nat.reduceSub, q3, q4]
      exact c_qDrops hT hPB h ih
    · simp only [k_MO_qGoesOn_9, e_MO_qGoesOn_10, k_MO_qGoesOn_10, rr, sh, Nat.reduceLT, Nat.reduceMul, Int.reduceToNat, Int.reduceGT, Int.reduceGE, Int.reduceNe, true_and, and_true, true_or, or_true, false_or, or_false, and_self, or_self, if_true, if_false, reduceIte, not_true_eq_false, not_false_eq_true, Int.reduceEq, Int.reduceNe, Int.reduceLT, Int.reduceLE, Int.reduceAdd, Int.reduceSub, Int.reduceMul, Int.reduceNeg, Nat.reduceAdd, Nat.reduceLeDiff, Nat.reduceEqDiff, ne_eq, List.length_cons, List.length_nil, Nat.reduceSub, q3, q4]
      exact c_qDrops hT hPB h ih
set_option maxRecDepth 20000 in
/-- signs that wait are told -/
theorem c_dropP (hT : TapeR V) (hPB : Ptr B) {s : Int} {Q : AV → Hp → Prop} (ht : tpN' W (fun x => x = 3 ∨ x = 4 ∨ x = 1 ∨ x = 2)) : ∀ (r : List Int) (C : List Int) (H : Hp), (∀ x ∈ r, x = 3 ∨ x = 4 ∨ x = 1 ∨ x = 2) → MQs V B H a j C (W ++ r.reverse) o b → (∀ H', MQs V B H' a j (C ++ r) W o b → R (d + 3) MO_qGoesOn (blk MO_qGoesOn 18) [va 71, vi s] [] H' Q) → R (d + 3) MO_qGoesOn (blk MO_qGoesOn 16) [va 71, vi s] [] H Q
  | [], C, H, _, h, hQ => by
    rw [List.reverse_nil, List.append_nil] at h
    have := hQ H (by rw [List.append_nil]; exact h)
    have q3 := fun {Q} => q_on (d := d + 2) (Q := Q) hT hPB h ht (v := 3) (Or.inl rfl)
    have q4 := fun {Q} => q_on (d := d + 2) (Q := Q) hT hPB h ht (v := 4) (Or.inr (Or.inl rfl))
    have q1 := fun {Q} => q_on (d := d + 2) (Q := Q) hT hPB h ht (v := 1) (Or.inr (Or.inr (Or.inl rfl)))
    have q2 := fun {Q} => q_on (d := d + 2) (Q := Q) hT hPB h ht (v := 2) (Or.inr (Or.inr (Or.inr rfl)))
    rw [e_MO_qGoesOn_16]
    simp only [k_MO_qGoesOn_16, rr, sh, Nat.reduceLT, Nat.reduceMul, Int.reduceToNat, Int.reduceGT, Int.reduceGE, Int.reduceNe, true_and, and_true, true_or, or_true, false_or, or_false, and_self, or_self, if_true, if_false, reduceIte, not_true_eq_false, not_false_eq_true, Int.reduceEq, Int.reduceNe, Int.reduceLT, Int.reduceLE, Int.reduceAdd, Int.reduceSub, Int.reduceMul, Int.reduceNeg, Nat.reduceAdd, Nat.reduceLeDiff, Nat.reduceEqDiff, ne_eq, List.length_cons, List.length_nil, Nat.reduceSub, q3, q4, q1, q2]
    exact this
  | x :: r, C, H, hr, h, hQ => by
    rw [rev_c] at h
    have q3 := fun {Q} => q_qIsOn (d := d + 2) (Q := Q) hT hPB h (v := 3)
    have q4 := fun {Q} => q_qIsOn (d := d + 2) (Q := Q) hT hPB h (v := 4)
    have q1 := fun {Q} => q_qIsOn (d := d + 2) (Q := Q) hT hPB h (v := 1)
    have q2 := fun {Q} => q_qIsOn (d := d + 2) (Q := Q) hT hPB h (v := 2)
    have ih := fun H' h' => c_dropP hT hPB ht r (C ++ [x]) H' (fun y hy => hr y (List.mem_cons_of_mem _ hy)) h' (fun H2 h2 => hQ H2 (by rw [← app_c]; exact h2))
    have hx := hr x (List.mem_cons_self ..)
    clear hQ
    rw [e_MO_qGoesOn_16]
    rcases hx with rfl | rfl | rfl | rfl
    all_goals
      simp only [k_MO_qGoesOn_16, e_MO_qGoesOn_17, k_MO_qGoesOn_17, rr, sh, Nat.reduceLT, Nat.reduceMul, Int.reduceToNat, Int.reduceGT, Int.reduceGE, Int.reduceNe, true_and, and_true, true_or, or_true, false_or, or_false, and_self, or_self, if_true, if_false, reduceIte, not_true_eq_false, not_false_eq_true, Int.reduceEq, Int.reduceNe, Int.reduceLT, Int.reduceLE, Int.reduceAdd, Int.reduceSub, Int.reduceMul, Int.reduceNeg, Nat.reduceAdd, Nat.reduceLeDiff, Nat.reduceEqDiff, ne_eq, List.length_cons, List.length_nil, Nat.reduceSub, q3, q4, q1, q2]
      exact c_qDrops hT hPB h ih
theorem MQa.tsY {H : Hp} {Q : AV → Hp → Prop} (hT : TapeR V) (h : MQa V B H a j C W o b) {c : Int} (hc : bz V a = c) : CC (d + 1) MO_takesSign [va 71, vi c] H Q = Q (vi 1) (hs H 71 2 ((a + 1 : Nat) : Int)) := by
  rw [q_takesSign hT h.2.1.1 h.2.1.2.1 h.2.1.2.2.2.2.2 h.2.1.2.2.2.1, h.2.2, if_pos hc, if_pos hc, h.same]
theorem MQa.tsN {H : Hp} {Q : AV → Hp → Prop} (hT : TapeR V) (h : MQa V B H a j C W o b) {c : Int} (hc : ¬ bz V a = c) : CC (d + 1) MO_takesSign [va 71, vi c] H Q = Q (vi 0) H := by
  rw [q_takesSign hT h.2.1.1 h.2.1.2.1 h.2.1.2.2.2.2.2 h.2.1.2.2.2.1, h.2.2, if_neg hc, if_neg hc, h.same]
set_option maxRecDepth 20000 in
/-- behind a sign: it waits -/
theorem g_push11 (hT : TapeR V) (hPB : Ptr B) (hc : KCtx (d + 6) K L E) {H : Hp} {s : Int} (h : MQs V B H a j C W o b) (hl : C.length + W.length + 1 ≤ a) (hn : PKq V B (d + 6) K a j C (W ++ [s]) o b) : R (d + 6) MO_qGoesOn (blk MO_qGoesOn 11) [va 71, vi s] [] H L ∧ R (d + 6) MO_qGoesOn (blk MO_qGoesOn 18) [va 71, vi s] [] H L := by
  have p89 : H 71 89 = 137 := h.ptr hPB (71, 89, 137) (by decide +kernel)
  have w1 := h.2.2.1.1
  have b1 : W.length < 1700 := Nat.lt_of_le_of_lt (Nat.le_trans (Nat.le_add_left _ _) (Nat.le_trans h.2.2.2.2.2.1 (Nat.le_trans h.sk.2 (tpN_le hT)))) (by decide)
  have j1 : 0 ≤ (W.length : Int) ∧ (W.length : Int) < 1700 := ix_n b1
  have kw := w32_s (n := W.length) (Nat.lt_trans b1 (by decide))
  have hp := h.wpush hl (v := s)
  have fin : L (vi 1) (hs (hs H 137 (W.length : Nat) s) 71 90 ((W.length + 1 : Nat) : Int)) := by
    refine hc.2.2.1 _ hp.k5 ?_
    have := hn _ vu vu vu vu hp
    simp only [en_MO_qPartTold, e_MO_qPartTold_0, k_MO_qPartTold_0, rr, sh, Nat.reduceLT, Nat.reduceMul, Int.reduceToNat, Int.reduceGT, Int.reduceGE, Int.reduceNe, true_and, and_true, true_or, or_true, false_or, or_false, and_self, or_self, if_true, if_false, reduceIte, not_true_eq_false, not_false_eq_true, Int.reduceEq, Int.reduceNe, Int.reduceLT, Int.reduceLE, Int.reduceAdd, Int.reduceSub, Int.reduceMul, Int.reduceNeg, Nat.reduceAdd, Nat.reduceLeDiff, Nat.reduceEqDiff, ne_eq, List.length_cons, List.length_nil, Nat.reduceSub]
    exact this
  constructor
  · simp only [e_MO_qGoesOn_11, k_MO_qGoesOn_11, rr, sh, Nat.reduceLT, Nat.reduceMul, Int.reduceToNat, Int.reduceGT, Int.reduceGE, Int.reduceNe, true_and, and_true, true_or, or_true, false_or, or_false, and_self, or_self, if_true, if_false, reduceIte, not_true_eq_false, not_false_eq_true, Int.reduceEq, Int.reduceNe, Int.reduceLT, Int.reduceLE, Int.reduceAdd, Int.reduceSub, Int.reduceMul, Int.reduceNeg, Nat.reduceAdd, Nat.reduceLeDiff, Nat.reduceEqDiff, ne_eq, List.length_cons, List.length_nil, Nat.reduceSub, hs_app, false_and, and_false, p89, w1, j1, kw]
    exact fin
  · simp only [e_MO_qGoesOn_18, k_MO_qGoesOn_18, rr, sh, Nat.reduceLT, Nat.reduceMul, Int.reduceToNat, Int.reduceGT, Int.reduceGE, Int.reduceNe, true_and, and_true, true_or, or_true, false_or, or_false, and_self, or_self, if_true, if_false, reduceIte, not_true_eq_false, not_false_eq_true, Int.reduceEq, Int.reduceNe, Int.reduceLT, Int.reduceLE, Int.reduceAdd, Int.reduceSub, Int.reduceMul, Int.reduceNeg, Nat.reduceAdd, Nat.reduceLeDiff, Nat.reduceEqDiff, ne_eq, List.length_cons, List.length_nil, Nat.reduceSub, hs_app, false_and, and_false, p89, w1, j1, kw]
    exact fin
end QZ3
