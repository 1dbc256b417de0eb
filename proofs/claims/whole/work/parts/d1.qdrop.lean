/-! QUESTIONS: what waits is told, the reference -/
/-- the last that waits, if it stands above the base, is such -/
def tpW (W : List Int) (b : Nat) (p : Int → Prop) : Prop := W.length = b ∨ ∃ W1 x, W = W1 ++ [x] ∧ p x
section QW2
variable {d : Nat} {V B H : Hp} {Q : AV → Hp → Prop} {a : Nat} {j : Int} {C W : List Int} {o b : Nat}
theorem rev_c {W : List Int} {x : Int} {r : List Int} : W ++ (x :: r).reverse = (W ++ r.reverse) ++ [x] := by rw [List.reverse_cons, List.append_assoc]
theorem app_c {C : List Int} {x : Int} {r : List Int} : (C ++ [x]) ++ r = C ++ (x :: r) := by rw [List.append_assoc]; rfl
set_option maxRecDepth 20000 in
theorem c_dropsTo (hT : TapeR V) (hPB : Ptr B) (hb : b ≤ W.length) (ht : tpW W b isBr) : ∀ (r : List Int) (C : List Int) (H : Hp), (∀ x ∈ r, ¬ isBr x) → MQs V B H a j C (W ++ r.reverse) o b → (∀ H', MQs V B H' a j (C ++ r) W o b → Q vu H') → R (d + 2) MO_qDropsToBracket (blk MO_qDropsToBracket 0) [va 71] [] H Q
  | [], C, H, _, h, hQ => by
    rw [List.reverse_nil, List.append_nil] at h
    have := hQ H (by rw [List.append_nil]; exact h)
    have w1 := h.2.2.1.1
    have b1 := h.2.2.2.2.1
    rw [e_MO_qDropsToBracket_0]
    by_cases c : W.length = b
    · have c1 : (W.length : Int) ≤ (b : Int) := il_y (Nat.le_of_eq c)
      simp only [k_MO_qDropsToBracket_0, e_MO_qDropsToBracket_1, k_MO_qDropsToBracket_1, rr, sh, Nat.reduceLT, Nat.reduceMul, Int.reduceToNat, Int.reduceGT, Int.reduceGE, Int.reduceNe, true_and, and_true, true_or, or_true, false_or, or_false, and_self, or_self, if_true, if_false, reduceIte, not_true_eq_false, not_false_eq_true, Int.reduceEq, Int.reduceNe, Int.reduceLT, Int.reduceLE, Int.reduceAdd, Int.reduceSub, Int.reduceMul, Int.reduceNeg, Nat.reduceAdd, Nat.reduceLeDiff, Nat.reduceEqDiff, ne_eq, List.length_cons, List.length_nil, Nat.reduceSub, w1, b1, c1]
      exact this
    · rcases ht with z | ⟨W1, x, rfl, hx⟩
      · exact absurd z c
      · obtain ⟨t1, t2, t3, t4, -⟩ := wtop hT h
        have p89 : H 71 89 = 137 := h.ptr hPB (71, 89, 137) (by decide +kernel)
        have c1 : ¬ ((W1.length + 1 : Nat) : Int) ≤ (b : Int) := by rw [len_s] at c hb; exact il_n (Nat.lt_of_le_of_ne hb (fun z => c z.symm))
        have hx' : 20 ≤ x ∧ x ≤ 24 := hx
        simp only [k_MO_qDropsToBracket_0, e_MO_qDropsToBracket_1, k_MO_qDropsToBracket_1, rr, sh, Nat.reduceLT, Nat.reduceMul, Int.reduceToNat, Int.reduceGT, Int.reduceGE, Int.reduceNe, true_and, and_true, true_or, or_true, false_or, or_false, and_self, or_self, if_true, if_false, reduceIte, not_true_eq_false, not_false_eq_true, Int.reduceEq, Int.reduceNe, Int.reduceLT, Int.reduceLE, Int.reduceAdd, Int.reduceSub, Int.reduceMul, Int.reduceNeg, Nat.reduceAdd, Nat.reduceLeDiff, Nat.reduceEqDiff, ne_eq, List.length_cons, List.length_nil, Nat.reduceSub, p89, t1, t2, t3, t4, b1, c1, q_isBr, hx']
        exact this
  | x :: r, C, H, hr, h, hQ => by
    rw [rev_c] at h
    obtain ⟨t1, t2, t3, t4, -⟩ := wtop hT h
    have b1 := h.2.2.2.2.1
    have p89 : H 71 89 = 137 := h.ptr hPB (71, 89, 137) (by decide +kernel)
    have c1 : ¬ (((W ++ r.reverse).length + 1 : Nat) : Int) ≤ (b : Int) := il_n (by rw [List.length_append]; omega)
    have hx' : ¬ (20 ≤ x ∧ x ≤ 24) := hr x (List.mem_cons_self ..)
    have ih := fun H' h' => c_dropsTo hT hPB hb ht r (C ++ [x]) H' (fun y hy => hr y (List.mem_cons_of_mem _ hy)) h' (fun H2 h2 => hQ H2 (by rw [← app_c]; exact h2))
    clear hQ
    rw [e_MO_qDropsToBracket_0]
    simp only [k_MO_qDropsToBracket_0, rr, sh, Nat.reduceLT, Nat.reduceMul, Int.reduceToNat, Int.reduceGT, Int.reduceGE, Int.reduceNe, true_and, and_true, true_or, or_true, false_or, or_false, and_self, or_self, if_true, if_false, reduceIte, not_true_eq_false, not_false_eq_true, Int.reduceEq, Int.reduceNe, Int.reduceLT, Int.reduceLE, Int.reduceAdd, Int.reduceSub, Int.reduceMul, Int.reduceNeg, Nat.reduceAdd, Nat.reduceLeDiff, Nat.reduceEqDiff, ne_eq, List.length_cons, List.length_nil, Nat.reduceSub, p89, t1, t2, t3, t4, b1, c1, q_isBr, hx']
    exact c_qDrops hT hPB h ih
set_option maxRecDepth 20000 in
theorem c_ends (hT : TapeR V) (hPB : Ptr B) (hb : b ≤ W.length) (ht : tpW W b (fun x => x < 60)) : ∀ (r : List Int) (C : List Int) (H : Hp), (∀ x ∈ r, 60 ≤ x) → o + r.length ≤ 6 → MQs V B H a j C (W ++ r.reverse) (o + r.length) b → (∀ H', MQs V B H' a j (C ++ r) W o b → Q vu H') → R (d + 2) MO_qEndsPart (blk MO_qEndsPart 0) [va 71] [] H Q
  | [], C, H, _, _, h, hQ => by
    rw [List.reverse_nil, List.append_nil] at h
    have := hQ H (by rw [List.append_nil]; exact h)
    have k5 := h.k5
    have w1 := h.2.2.1.1
    have b1 := h.2.2.2.2.1
    rw [e_MO_qEndsPart_0]
    by_cases c : W.length = b
    · have c1 : (W.length : Int) ≤ (b : Int) := il_y (Nat.le_of_eq c)
      simp only [k_MO_qEndsPart_0, e_MO_qEndsPart_1, k_MO_qEndsPart_1, rr, sh, Nat.reduceLT, Nat.reduceMul, Int.reduceToNat, Int.reduceGT, Int.reduceGE, Int.reduceNe, true_and, and_true, true_or, or_true, false_or, or_false, and_self, or_self, if_true, if_false, reduceIte, not_true_eq_false, not_false_eq_true, Int.reduceEq, Int.reduceNe, Int.reduceLT, Int.reduceLE, Int.reduceAdd, Int.reduceSub, Int.reduceMul, Int.reduceNeg, Nat.reduceAdd, Nat.reduceLeDiff, Nat.reduceEqDiff, ne_eq, List.length_cons, List.length_nil, Nat.reduceSub, k5, w1, b1, c1]
      exact this
    · rcases ht with z | ⟨W1, x, rfl, hx⟩
      · exact absurd z c
      · obtain ⟨t1, t2, t3, t4, -⟩ := wtop hT h
        have p89 : H 71 89 = 137 := h.ptr hPB (71, 89, 137) (by decide +kernel)
        have c1 : ¬ ((W1.length + 1 : Nat) : Int) ≤ (b : Int) := by rw [len_s] at c hb; exact il_n (Nat.lt_of_le_of_ne hb (fun z => c z.symm))
        simp only [k_MO_qEndsPart_0, e_MO_qEndsPart_1, k_MO_qEndsPart_1, rr, sh, Nat.reduceLT, Nat.reduceMul, Int.reduceToNat, Int.reduceGT, Int.reduceGE, Int.reduceNe, true_and, and_true, true_or, or_true, false_or, or_false, and_self, or_self, if_true, if_false, reduceIte, not_true_eq_false, not_false_eq_true, Int.reduceEq, Int.reduceNe, Int.reduceLT, Int.reduceLE, Int.reduceAdd, Int.reduceSub, Int.reduceMul, Int.reduceNeg, Nat.reduceAdd, Nat.reduceLeDiff, Nat.reduceEqDiff, ne_eq, List.length_cons, List.length_nil, Nat.reduceSub, k5, p89, t1, t2, t3, t4, b1, c1, hx]
        exact this
  | x :: r, C, H, hr, ho6, h, hQ => by
    rw [List.length_cons] at ho6
    rw [rev_c, List.length_cons] at h
    obtain ⟨t1, t2, t3, t4, -⟩ := wtop hT h
    have k5 := h.k5
    have b1 := h.2.2.2.2.1
    have o1 : H 71 91 = ((o + (r.length + 1) : Nat) : Int) := h.2.2.2.1
    have p89 : H 71 89 = 137 := h.ptr hPB (71, 89, 137) (by decide +kernel)
    have c1 : ¬ (((W ++ r.reverse).length + 1 : Nat) : Int) ≤ (b : Int) := il_n (by rw [List.length_append]; omega)
    have hx' : ¬ x < 60 := Int.not_lt.mpr (hr x (List.mem_cons_self ..))
    have rl : o + (r.length + 1) < 2147483648 ∧ o + (r.length + 1) - 1 = o + r.length := ⟨by omega, by omega⟩
    have ih := fun H' h' => c_ends hT hPB hb ht r (C ++ [x]) H' (fun y hy => hr y (List.mem_cons_of_mem _ hy)) (by omega) h' (fun H2 h2 => hQ H2 (by rw [← app_c]; exact h2))
    have ow : w32 (((o + (r.length + 1) : Nat) : Int) - 1) = ((o + r.length : Nat) : Int) := by
      have := w_sub (a := o + (r.length + 1)) (b := 1) (Nat.le_trans (Nat.le_add_left 1 _) (Nat.le_add_left _ _)) rl.1
      rw [rl.2] at this
      exact this
    clear hQ
    rw [e_MO_qEndsPart_0]
    simp only [k_MO_qEndsPart_0, rr, sh, Nat.reduceLT, Nat.reduceMul, Int.reduceToNat, Int.reduceGT, Int.reduceGE, Int.reduceNe, true_and, and_true, true_or, or_true, false_or, or_false, and_self, or_self, if_true, if_false, reduceIte, not_true_eq_false, not_false_eq_true, Int.reduceEq, Int.reduceNe, Int.reduceLT, Int.reduceLE, Int.reduceAdd, Int.reduceSub, Int.reduceMul, Int.reduceNeg, Nat.reduceAdd, Nat.reduceLeDiff, Nat.reduceEqDiff, ne_eq, List.length_cons, List.length_nil, Nat.reduceSub, k5, p89, t1, t2, t3, t4, b1, c1, hx', o1, ow]
    exact c_qDrops hT hPB h.op ih
/-- what is opened last in the sum at hand: n0 the place behind it -/
theorem q_qBracket (hT : TapeR V) (hPB : Ptr B) (h : MQs V B H a j C W o b) {n0 : Nat} {res : Int} (hn : n0 ≤ W.length) (hb : b ≤ n0) (hno : ∀ k : Nat, n0 ≤ k → k < W.length → ¬ isBr (W.getD k 0)) (hr : (n0 = b ∧ res = -1) ∨ ∃ m : Nat, n0 = m + 1 ∧ b ≤ m ∧ isBr (W.getD m 0) ∧ res = W.getD m 0) : CC (d + 1) MO_qBracket [va 71] H Q = Q (vi res) H := by
  refine CC_dt fun Q hQ => ?_
  have p89 : H 71 89 = 137 := h.ptr hPB (71, 89, 137) (by decide +kernel)
  have w1 := h.2.2.1.1
  have w2 := h.2.2.1.2
  have b1 := h.2.2.2.2.1
  have b2 : W.length < 1700 := Nat.lt_of_le_of_lt (Nat.le_trans (Nat.le_add_left _ _) (Nat.le_trans h.2.2.2.2.2.1 (Nat.le_trans h.sk.2 (tpN_le hT)))) (by decide)
  have key : ∀ n : Nat, n0 + n ≤ W.length → R (d + 1) MO_qBracket (blk MO_qBracket 1) [va 71, vi (((n0 + n : Nat) : Int) - 1)] [] H Q := by
    intro n
    induction n with
    | zero =>
      intro _
      show R (d + 1) MO_qBracket (blk MO_qBracket 1) [va 71, vi ((n0 : Int) - 1)] [] H Q
      rw [e_MO_qBracket_1]
      rcases hr with ⟨rfl, rfl⟩ | ⟨m, rfl, hm, hx, rfl⟩
      · have c1 : ((n0 : Int) - 1) < (n0 : Int) := by omega
        simp only [k_MO_qBracket_1, e_MO_qBracket_2, k_MO_qBracket_2, e_MO_qBracket_3, k_MO_qBracket_3, e_MO_qBracket_4, k_MO_qBracket_4, rr, sh, Nat.reduceLT, Nat.reduceMul, Int.reduceToNat, Int.reduceGT, Int.reduceGE, Int.reduceNe, true_and, and_true, true_or, or_true, false_or, or_false, and_self, or_self, if_true, if_false, reduceIte, not_true_eq_false, not_false_eq_true, Int.reduceEq, Int.reduceNe, Int.reduceLT, Int.reduceLE, Int.reduceAdd, Int.reduceSub, Int.reduceMul, Int.reduceNeg, Nat.reduceAdd, Nat.reduceLeDiff, Nat.reduceEqDiff, ne_eq, List.length_cons, List.length_nil, Nat.reduceSub, b1, c1]
        exact hQ
      · have e1 : ((m + 1 : Nat) : Int) - 1 = (m : Nat) := by omega
        have c1 : ¬ (m : Int) < (b : Int) := by omega
        have j1 : 0 ≤ (m : Int) ∧ (m : Int) < 1700 := ix_n (b := 1700) (by omega)
        have v := w2 m (by omega)
        have hx' : 20 ≤ W.getD m 0 ∧ W.getD m 0 ≤ 24 := hx
        simp only [k_MO_qBracket_1, e_MO_qBracket_2, k_MO_qBracket_2, e_MO_qBracket_3, k_MO_qBracket_3, e_MO_qBracket_4, k_MO_qBracket_4, rr, sh, Nat.reduceLT, Nat.reduceMul, Int.reduceToNat, Int.reduceGT, Int.reduceGE, Int.reduceNe, true_and, and_true, true_or, or_true, false_or, or_false, and_self, or_self, if_true, if_false, reduceIte, not_true_eq_false, not_false_eq_true, Int.reduceEq, Int.reduceNe, Int.reduceLT, Int.reduceLE, Int.reduceAdd, Int.reduceSub, Int.reduceMul, Int.reduceNeg, Nat.reduceAdd, Nat.reduceLeDiff, Nat.reduceEqDiff, ne_eq, List.length_cons, List.length_nil, Nat.reduceSub, e1, b1, c1, p89, j1, v, q_isBr, hx']
        exact hQ
    | succ n ih =>
      intro hl
      have ih := ih (by omega)
      have e1 : ((n0 + (n + 1) : Nat) : Int) - 1 = ((n0 + n : Nat) : Int) := by omega
      have c1 : ¬ ((n0 + n : Nat) : Int) < (b : Int) := by omega
      have j1 : 0 ≤ ((n0 + n : Nat) : Int) ∧ ((n0 + n : Nat) : Int) < 1700 := ix_n (b := 1700) (by omega)
      have v := w2 (n0 + n) (by omega)
      have hx' : ¬ (20 ≤ W.getD (n0 + n) 0 ∧ W.getD (n0 + n) 0 ≤ 24) := hno (n0 + n) (by omega) (by omega)
      have kw : w32 (((n0 + n : Nat) : Int) + -1) = ((n0 + n : Nat) : Int) - 1 := by rw [w32_id (by omega) (by omega)]; rfl
      rw [e_MO_qBracket_1]
      simp only [k_MO_qBracket_1, rr, sh, Nat.reduceLT, Nat.reduceMul, Int.reduceToNat, Int.reduceGT, Int.reduceGE, Int.reduceNe, true_and, and_true, true_or, or_true, false_or, or_false, and_self, or_self, if_true, if_false, reduceIte, not_true_eq_false, not_false_eq_true, Int.reduceEq, Int.reduceNe, Int.reduceLT, Int.reduceLE, Int.reduceAdd, Int.reduceSub, Int.reduceMul, Int.reduceNeg, Nat.reduceAdd, Nat.reduceLeDiff, Nat.reduceEqDiff, ne_eq, List.length_cons, List.length_nil, Nat.reduceSub, e1, b1, c1, p89, j1, v, q_isBr, hx', kw]
      exact ih
  obtain ⟨n, hn'⟩ : ∃ n, n0 + n = W.length := ⟨W.length - n0, by omega⟩
  have := key n (by omega)
  rw [hn'] at this
  have kw : w32 ((W.length : Int) - 1) = (W.length : Int) - 1 := w32_id (by clear this key; omega) (by clear this key; omega)
  simp only [en_MO_qBracket, e_MO_qBracket_0, k_MO_qBracket_0, rr, sh, Nat.reduceLT, Nat.reduceMul, Int.reduceToNat, Int.reduceGT, Int.reduceGE, Int.reduceNe, true_and, and_true, true_or, or_true, false_or, or_false, and_self, or_self, if_true, if_false, reduceIte, not_true_eq_false, not_false_eq_true, Int.reduceEq, Int.reduceNe, Int.reduceLT, Int.reduceLE, Int.reduceAdd, Int.reduceSub, Int.reduceMul, Int.reduceNeg, Nat.reduceAdd, Nat.reduceLeDiff, Nat.reduceEqDiff, ne_eq, List.length_cons, List.length_nil, Nat.reduceSub, w1, kw]
  exact this
end QW2
