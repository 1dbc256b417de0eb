/-! QUESTIONS: the reference's tests: what waits -/
def okW (W : List Int) : Prop := ∀ x ∈ W, 10 ≤ x
def isNt (x : Int) : Prop := x = 12
def isSq (x : Int) : Prop := x = 25
def isAn (x : Int) : Prop := x = 10
def isAO (x : Int) : Prop := x = 10 ∨ x = 11
section QT1
variable {d : Nat} {V B H : Hp} {Q : AV → Hp → Prop} {a : Nat} {j : Int} {C W : List Int} {o b : Nat}
theorem okW_op (h : okW W) : tpN' W isOp := by
  rcases List.eq_nil_or_concat W with e | ⟨W1, x, e⟩
  · exact Or.inl e
  · rw [List.concat_eq_append] at e
    subst e
    have := h x (List.mem_append_right _ (List.mem_singleton.mpr rfl))
    exact Or.inr ⟨W1, x, rfl, fun z => by unfold isOp at z; omega⟩
theorem okW.app (h : okW W) {r : List Int} (hr : ∀ x ∈ r, 10 ≤ x) : okW (W ++ r.reverse) := fun x hx => by
  rcases List.mem_append.mp hx with h1 | h1
  · exact h x h1
  · exact hr x (List.mem_reverse.mp h1)
theorem okW.one (h : okW W) {y : Int} (hy : 10 ≤ y) : okW (W ++ [y]) := fun x hx => by
  rcases List.mem_append.mp hx with h1 | h1
  · exact h x h1
  · rw [List.mem_singleton] at h1
    subst h1
    exact hy
theorem memD {k : Nat} (hk : k < W.length) : W.getD k 0 ∈ W := by
  rw [List.getD_eq_getElem?_getD, List.getElem?_eq_getElem hk]
  exact List.getElem_mem hk
set_option maxRecDepth 20000 in
/-- whether a square bracket waits -/
theorem q_hasN (hT : TapeR V) (hPB : Ptr B) (h : MQs V B H a j C W o b) (hn : ∀ x ∈ W, ¬ isSq x) : CC (d + 1) MO_qHasSquare [va 71] H Q = Q (vi 0) H := by
  refine CC_dt fun Q hQ => ?_
  have p89 : H 71 89 = 137 := h.ptr hPB (71, 89, 137) (by decide +kernel)
  have w1 := h.2.2.1.1
  have w2 := h.2.2.1.2
  have b2 : W.length < 1700 := Nat.lt_of_le_of_lt (Nat.le_trans (Nat.le_add_left _ _) (Nat.le_trans h.2.2.2.2.2.1 (Nat.le_trans h.sk.2 (tpN_le hT)))) (by decide)
  have key : ∀ n k : Nat, k + n = W.length → R (d + 1) MO_qHasSquare (blk MO_qHasSquare 1) [va 71, vi k] [] H Q := by
    intro n
    induction n with
    | zero =>
      intro k hk
      have c1 : (W.length : Int) ≤ (k : Int) := il_y (Nat.le_of_eq hk.symm)
      rw [e_MO_qHasSquare_1]
      simp only [k_MO_qHasSquare_1, e_MO_qHasSquare_3, k_MO_qHasSquare_3, rr, sh, Nat.reduceLT, Nat.reduceMul, Int.reduceToNat, Int.reduceGT, Int.reduceGE, Int.reduceNe, true_and, and_true, true_or, or_true, false_or, or_false, and_self, or_self, if_true, if_false, reduceIte, not_true_eq_false, not_false_eq_true, Int.reduceEq, Int.reduceNe, Int.reduceLT, Int.reduceLE, Int.reduceAdd, Int.reduceSub, Int.reduceMul, Int.reduceNeg, Nat.reduceAdd, Nat.reduceLeDiff, Nat.reduceEqDiff, ne_eq, List.length_cons, List.length_nil, Nat.reduceSub, w1, c1]
      exact hQ
    | succ n ih =>
      intro k hk
      have ih := ih (k + 1) (by omega)
      have kl : k < W.length := by omega
      have c1 : ¬ (W.length : Int) ≤ (k : Int) := il_n kl
      have j1 : 0 ≤ (k : Int) ∧ (k : Int) < 1700 := ix_n (Nat.lt_trans kl b2)
      have v := w2 k kl
      have hx : ¬ W.getD k 0 = 25 := hn _ (memD kl)
      have kw := w32_s (n := k) (Nat.lt_trans (Nat.lt_trans kl b2) (by decide))
      rw [e_MO_qHasSquare_1]
      simp only [k_MO_qHasSquare_1, e_MO_qHasSquare_2, k_MO_qHasSquare_2, rr, sh, Nat.reduceLT, Nat.reduceMul, Int.reduceToNat, Int.reduceGT, Int.reduceGE, Int.reduceNe, true_and, and_true, true_or, or_true, false_or, or_false, and_self, or_self, if_true, if_false, reduceIte, not_true_eq_false, not_false_eq_true, Int.reduceEq, Int.reduceNe, Int.reduceLT, Int.reduceLE, Int.reduceAdd, Int.reduceSub, Int.reduceMul, Int.reduceNeg, Nat.reduceAdd, Nat.reduceLeDiff, Nat.reduceEqDiff, ne_eq, List.length_cons, List.length_nil, Nat.reduceSub, p89, w1, c1, j1, v, hx, kw]
      exact ih
  have := key W.length 0 (Nat.zero_add _)
  simp only [en_MO_qHasSquare, e_MO_qHasSquare_0, k_MO_qHasSquare_0, rr, sh, Nat.reduceLT, Nat.reduceMul, Int.reduceToNat, Int.reduceGT, Int.reduceGE, Int.reduceNe, true_and, and_true, true_or, or_true, false_or, or_false, and_self, or_self, if_true, if_false, reduceIte, not_true_eq_false, not_false_eq_true, Int.reduceEq, Int.reduceNe, Int.reduceLT, Int.reduceLE, Int.reduceAdd, Int.reduceSub, Int.reduceMul, Int.reduceNeg, Nat.reduceAdd, Nat.reduceLeDiff, Nat.reduceEqDiff, ne_eq, List.length_cons, List.length_nil, Nat.reduceSub]
  exact this
set_option maxRecDepth 20000 in
theorem q_hasY (hT : TapeR V) (hPB : Ptr B) (h : MQs V B H a j C W o b) {m : Nat} (hm : m < W.length) (hx : isSq (W.getD m 0)) : CC (d + 1) MO_qHasSquare [va 71] H Q = Q (vi 1) H := by
  refine CC_dt fun Q hQ => ?_
  have p89 : H 71 89 = 137 := h.ptr hPB (71, 89, 137) (by decide +kernel)
  have w1 := h.2.2.1.1
  have w2 := h.2.2.1.2
  have b2 : W.length < 1700 := Nat.lt_of_le_of_lt (Nat.le_trans (Nat.le_add_left _ _) (Nat.le_trans h.2.2.2.2.2.1 (Nat.le_trans h.sk.2 (tpN_le hT)))) (by decide)
  have key : ∀ n k : Nat, k + n = m → R (d + 1) MO_qHasSquare (blk MO_qHasSquare 1) [va 71, vi k] [] H Q := by
    intro n
    induction n with
    | zero =>
      intro k hk
      have kl : k < W.length := by omega
      have c1 : ¬ (W.length : Int) ≤ (k : Int) := il_n kl
      have j1 : 0 ≤ (k : Int) ∧ (k : Int) < 1700 := ix_n (Nat.lt_trans kl b2)
      have v := w2 k kl
      have km : k = m := by omega
      have hx' : W.getD k 0 = 25 := by rw [km]; exact hx
      rw [e_MO_qHasSquare_1]
      simp only [k_MO_qHasSquare_1, rr, sh, Nat.reduceLT, Nat.reduceMul, Int.reduceToNat, Int.reduceGT, Int.reduceGE, Int.reduceNe, true_and, and_true, true_or, or_true, false_or, or_false, and_self, or_self, if_true, if_false, reduceIte, not_true_eq_false, not_false_eq_true, Int.reduceEq, Int.reduceNe, Int.reduceLT, Int.reduceLE, Int.reduceAdd, Int.reduceSub, Int.reduceMul, Int.reduceNeg, Nat.reduceAdd, Nat.reduceLeDiff, Nat.reduceEqDiff, ne_eq, List.length_cons, List.length_nil, Nat.reduceSub, p89, w1, c1, j1, v, hx']
      exact hQ
    | succ n ih =>
      intro k hk
      have ih := ih (k + 1) (by omega)
      have kl : k < W.length := by omega
      have c1 : ¬ (W.length : Int) ≤ (k : Int) := il_n kl
      have j1 : 0 ≤ (k : Int) ∧ (k : Int) < 1700 := ix_n (Nat.lt_trans kl b2)
      have v := w2 k kl
      have kw := w32_s (n := k) (Nat.lt_trans (Nat.lt_trans kl b2) (by decide))
      rw [e_MO_qHasSquare_1]
      by_cases hy : W.getD k 0 = 25
      · simp only [k_MO_qHasSquare_1, rr, sh, Nat.reduceLT, Nat.reduceMul, Int.reduceToNat, Int.reduceGT, Int.reduceGE, Int.reduceNe, true_and, and_true, true_or, or_true, false_or, or_false, and_self, or_self, if_true, if_false, reduceIte, not_true_eq_false, not_false_eq_true, Int.reduceEq, Int.reduceNe, Int.reduceLT, Int.reduceLE, Int.reduceAdd, Int.reduceSub, Int.reduceMul, Int.reduceNeg, Nat.reduceAdd, Nat.reduceLeDiff, Nat.reduceEqDiff, ne_eq, List.length_cons, List.length_nil, Nat.reduceSub, p89, w1, c1, j1, v, hy]
        exact hQ
      · simp only [k_MO_qHasSquare_1, e_MO_qHasSquare_2, k_MO_qHasSquare_2, rr, sh, Nat.reduceLT, Nat.reduceMul, Int.reduceToNat, Int.reduceGT, Int.reduceGE, Int.reduceNe, true_and, and_true, true_or, or_true, false_or, or_false, and_self, or_self, if_true, if_false, reduceIte, not_true_eq_false, not_false_eq_true, Int.reduceEq, Int.reduceNe, Int.reduceLT, Int.reduceLE, Int.reduceAdd, Int.reduceSub, Int.reduceMul, Int.reduceNeg, Nat.reduceAdd, Nat.reduceLeDiff, Nat.reduceEqDiff, ne_eq, List.length_cons, List.length_nil, Nat.reduceSub, p89, w1, c1, j1, v, hy, kw]
        exact ih
  have := key m 0 (Nat.zero_add _)
  simp only [en_MO_qHasSquare, e_MO_qHasSquare_0, k_MO_qHasSquare_0, rr, sh, Nat.reduceLT, Nat.reduceMul, Int.reduceToNat, Int.reduceGT, Int.reduceGE, Int.reduceNe, true_and, and_true, true_or, or_true, false_or, or_false, and_self, or_self, if_true, if_false, reduceIte, not_true_eq_false, not_false_eq_true, Int.reduceEq, Int.reduceNe, Int.reduceLT, Int.reduceLE, Int.reduceAdd, Int.reduceSub, Int.reduceMul, Int.reduceNeg, Nat.reduceAdd, Nat.reduceLeDiff, Nat.reduceEqDiff, ne_eq, List.length_cons, List.length_nil, Nat.reduceSub]
  exact this
set_option maxRecDepth 20000 in
/-- nots that wait are told -/
theorem c_nots (hT : TapeR V) (hPB : Ptr B) (ht : tpN' W isNt) : ∀ (r : List Int) (C : List Int) (H : Hp), (∀ x ∈ r, x = 12) → o + r.length ≤ 6 → MQs V B H a j C (W ++ r.reverse) (o + r.length) b → (∀ H', MQs V B H' a j (C ++ r) W o b → Q vu H') → R (d + 2) MO_qDropsNots (blk MO_qDropsNots 0) [va 71] [] H Q
  | [], C, H, _, _, h, hQ => by
    rw [List.reverse_nil, List.append_nil] at h
    have := hQ H (by rw [List.append_nil]; exact h)
    have k5 := h.k5
    have q := fun {Q} => q_on (d := d + 1) (Q := Q) hT hPB h ht (v := 12) rfl
    rw [e_MO_qDropsNots_0]
    simp only [k_MO_qDropsNots_0, e_MO_qDropsNots_1, k_MO_qDropsNots_1, rr, sh, Nat.reduceLT, Nat.reduceMul, Int.reduceToNat, Int.reduceGT, Int.reduceGE, Int.reduceNe, true_and, and_true, true_or, or_true, false_or, or_false, and_self, or_self, if_true, if_false, reduceIte, not_true_eq_false, not_false_eq_true, Int.reduceEq, Int.reduceNe, Int.reduceLT, Int.reduceLE, Int.reduceAdd, Int.reduceSub, Int.reduceMul, Int.reduceNeg, Nat.reduceAdd, Nat.reduceLeDiff, Nat.reduceEqDiff, ne_eq, List.length_cons, List.length_nil, Nat.reduceSub, k5, q]
    exact this
  | x :: r, C, H, hr, ho6, h, hQ => by
    rw [List.length_cons] at ho6
    rw [rev_c, List.length_cons] at h
    have k5 := h.k5
    have o1 : H 71 91 = ((o + (r.length + 1) : Nat) : Int) := h.2.2.2.1
    have hx : x = 12 := hr x (List.mem_cons_self ..)
    subst hx
    have q := fun {Q} => q_qIsOn (d := d + 1) (Q := Q) hT hPB h (v := 12)
    have rl : o + (r.length + 1) < 2147483648 ∧ o + (r.length + 1) - 1 = o + r.length := ⟨by omega, by omega⟩
    have ih := fun H' h' => c_nots hT hPB ht r (C ++ [12]) H' (fun y hy => hr y (List.mem_cons_of_mem _ hy)) (by omega) h' (fun H2 h2 => hQ H2 (by rw [← app_c]; exact h2))
    have ow : w32 (((o + (r.length + 1) : Nat) : Int) - 1) = ((o + r.length : Nat) : Int) := by
      have := w_sub (a := o + (r.length + 1)) (b := 1) (Nat.le_trans (Nat.le_add_left 1 _) (Nat.le_add_left _ _)) rl.1
      rw [rl.2] at this
      exact this
    clear hQ
    rw [e_MO_qDropsNots_0]
    simp only [k_MO_qDropsNots_0, rr, sh, Nat.reduceLT, Nat.reduceMul, Int.reduceToNat, Int.reduceGT, Int.reduceGE, Int.reduceNe, true_and, and_true, true_or, or_true, false_or, or_false, and_self, or_self, if_true, if_false, reduceIte, not_true_eq_false, not_false_eq_true, Int.reduceEq, Int.reduceNe, Int.reduceLT, Int.reduceLE, Int.reduceAdd, Int.reduceSub, Int.reduceMul, Int.reduceNeg, Nat.reduceAdd, Nat.reduceLeDiff, Nat.reduceEqDiff, ne_eq, List.length_cons, List.length_nil, Nat.reduceSub, k5, q, o1, ow]
    exact c_qDrops hT hPB h.op ih
theorem c_nots' (hk : ¬ H 71 5 = 0) : CC (d + 2) MO_qDropsNots [va 71] H Q = Q vu H := by
  refine CC_dt fun Q hQ => ?_
  simp only [en_MO_qDropsNots, e_MO_qDropsNots_0, k_MO_qDropsNots_0, e_MO_qDropsNots_1, k_MO_qDropsNots_1, rr, sh, Nat.reduceLT, Nat.reduceMul, Int.reduceToNat, Int.reduceGT, Int.reduceGE, Int.reduceNe, true_and, and_true, true_or, or_true, false_or, or_false, and_self, or_self, if_true, if_false, reduceIte, not_true_eq_false, not_false_eq_true, Int.reduceEq, Int.reduceNe, Int.reduceLT, Int.reduceLE, Int.reduceAdd, Int.reduceSub, Int.reduceMul, Int.reduceNeg, Nat.reduceAdd, Nat.reduceLeDiff, Nat.reduceEqDiff, ne_eq, List.length_cons, List.length_nil, Nat.reduceSub, hk]
  exact hQ
set_option maxRecDepth 20000 in
/-- ands that wait are told -/
theorem c_dropA (hT : TapeR V) (hPB : Ptr B) (ht : tpN' W isAn) : ∀ (r : List Int) (C : List Int) (H : Hp), (∀ x ∈ r, isAn x) → MQs V B H a j C (W ++ r.reverse) o b → (∀ H', MQs V B H' a j (C ++ r) W o b → R (d + 3) MO_qGoesOnTest (blk MO_qGoesOnTest 5) [va 71] [] H' Q) → R (d + 3) MO_qGoesOnTest (blk MO_qGoesOnTest 4) [va 71] [] H Q
  | [], C, H, _, h, hQ => by
    rw [List.reverse_nil, List.append_nil] at h
    have := hQ H (by rw [List.append_nil]; exact h)
    have q := fun {Q} => q_on (d := d + 2) (Q := Q) hT hPB h ht (v := 10) rfl
    rw [e_MO_qGoesOnTest_4]
    simp only [k_MO_qGoesOnTest_4, rr, sh, Nat.reduceLT, Nat.reduceMul, Int.reduceToNat, Int.reduceGT, Int.reduceGE, Int.reduceNe, true_and, and_true, true_or, or_true, false_or, or_false, and_self, or_self, if_true, if_false, reduceIte, not_true_eq_false, not_false_eq_true, Int.reduceEq, Int.reduceNe, Int.reduceLT, Int.reduceLE, Int.reduceAdd, Int.reduceSub, Int.reduceMul, Int.reduceNeg, Nat.reduceAdd, Nat.reduceLeDiff, Nat.reduceEqDiff, ne_eq, List.length_cons, List.length_nil, Nat.reduceSub, q]
    exact this
  | x :: r, C, H, hr, h, hQ => by
    rw [rev_c] at h
    have q := fun {Q} => q_qIsOn (d := d + 2) (Q := Q) hT hPB h (v := 10)
    have ih := fun H' h' => c_dropA hT hPB ht r (C ++ [x]) H' (fun y hy => hr y (List.mem_cons_of_mem _ hy)) h' (fun H2 h2 => hQ H2 (by rw [← app_c]; exact h2))
    have hx : x = 10 := hr x (List.mem_cons_self ..)
    clear hQ
    subst hx
    rw [e_MO_qGoesOnTest_4]
    simp only [k_MO_qGoesOnTest_4, rr, sh, Nat.reduceLT, Nat.reduceMul, Int.reduceToNat, Int.reduceGT, Int.reduceGE, Int.reduceNe, true_and, and_true, true_or, or_true, false_or, or_false, and_self, or_self, if_true, if_false, reduceIte, not_true_eq_false, not_false_eq_true, Int.reduceEq, Int.reduceNe, Int.reduceLT, Int.reduceLE, Int.reduceAdd, Int.reduceSub, Int.reduceMul, Int.reduceNeg, Nat.reduceAdd, Nat.reduceLeDiff, Nat.reduceEqDiff, ne_eq, List.length_cons, List.length_nil, Nat.reduceSub, q]
    exact c_qDrops hT hPB h ih
set_option maxRecDepth 20000 in
/-- ands and ors that wait are told -/
theorem c_dropO (hT : TapeR V) (hPB : Ptr B) (ht : tpN' W isAO) : ∀ (r : List Int) (C : List Int) (H : Hp), (∀ x ∈ r, isAO x) → MQs V B H a j C (W ++ r.reverse) o b → (∀ H', MQs V B H' a j (C ++ r) W o b → R (d + 3) MO_qGoesOnTest (blk MO_qGoesOnTest 9) [va 71] [] H' Q) → R (d + 3) MO_qGoesOnTest (blk MO_qGoesOnTest 7) [va 71] [] H Q
  | [], C, H, _, h, hQ => by
    rw [List.reverse_nil, List.append_nil] at h
    have := hQ H (by rw [List.append_nil]; exact h)
    have q := fun {Q} => q_on (d := d + 2) (Q := Q) hT hPB h ht (v := 10) (Or.inl rfl)
    have q' := fun {Q} => q_on (d := d + 2) (Q := Q) hT hPB h ht (v := 11) (Or.inr rfl)
    rw [e_MO_qGoesOnTest_7]
    simp only [k_MO_qGoesOnTest_7, rr, sh, Nat.reduceLT, Nat.reduceMul, Int.reduceToNat, Int.reduceGT, Int.reduceGE, Int.reduceNe, true_and, and_true, true_or, or_true, false_or, or_false, and_self, or_self, if_true, if_false, reduceIte, not_true_eq_false, not_false_eq_true, Int.reduceEq, Int.reduceNe, Int.reduceLT, Int.reduceLE, Int.reduceAdd, Int.reduceSub, Int.reduceMul, Int.reduceNeg, Nat.reduceAdd, Nat.reduceLeDiff, Nat.reduceEqDiff, ne_eq, List.length_cons, List.length_nil, Nat.reduceSub, q, q']
    exact this
  | x :: r, C, H, hr, h, hQ => by
    rw [rev_c] at h
    have q := fun {Q} => q_qIsOn (d := d + 2) (Q := Q) hT hPB h (v := 10)
    have q' := fun {Q} => q_qIsOn (d := d + 2) (Q := Q) hT hPB h (v := 11)
    have ih := fun H' h' => c_dropO hT hPB ht r (C ++ [x]) H' (fun y hy => hr y (List.mem_cons_of_mem _ hy)) h' (fun H2 h2 => hQ H2 (by rw [← app_c]; exact h2))
    have hx : x = 10 ∨ x = 11 := hr x (List.mem_cons_self ..)
    clear hQ
    rw [e_MO_qGoesOnTest_7]
    rcases hx with rfl | rfl
    all_goals
      simp only [k_MO_qGoesOnTest_7, e_MO_qGoesOnTest_8, k_MO_qGoesOnTest_8, rr, sh, Nat.reduceLT, Nat.reduceMul, Int.reduceToNat, Int.reduceGT, Int.reduceGE, Int.reduceNe, true_and, and_true, true_or, or_true, false_or, or_false, and_self, or_self, if_true, if_false, reduceIte, not_true_eq_false, not_false_eq_true, Int.reduceEq, Int.reduceNe, Int.reduceLT, Int.reduceLE, Int.reduceAdd, Int.reduceSub, Int.reduceMul, Int.reduceNeg, Nat.reduceAdd, Nat.reduceLeDiff, Nat.reduceEqDiff, ne_eq, List.length_cons, List.length_nil, Nat.reduceSub, q, q']
      exact c_qDrops hT hPB h ih
set_option maxRecDepth 20000 in
/-- all behind the last square bracket is told -/
theorem c_dropS (hT : TapeR V) (hPB : Ptr B) {W1 : List Int} : ∀ (r : List Int) (C : List Int) (H : Hp), (∀ x ∈ r, ¬ isSq x) → MQs V B H a j C ((W1 ++ [25]) ++ r.reverse) o b → (∀ H', MQs V B H' a j (C ++ r) (W1 ++ [25]) o b → R (d + 3) MO_qGoesOnTest (blk MO_qGoesOnTest 2) [va 71] [] H' Q) → R (d + 3) MO_qGoesOnTest (blk MO_qGoesOnTest 1) [va 71] [] H Q
  | [], C, H, _, h, hQ => by
    rw [List.reverse_nil, List.append_nil] at h
    have := hQ H (by rw [List.append_nil]; exact h)
    have q := fun {Q} => q_qIsOn (d := d + 2) (Q := Q) hT hPB h (v := 25)
    rw [e_MO_qGoesOnTest_1]
    simp only [k_MO_qGoesOnTest_1, rr, sh, Nat.reduceLT, Nat.reduceMul, Int.reduceToNat, Int.reduceGT, Int.reduceGE, Int.reduceNe, true_and, and_true, true_or, or_true, false_or, or_false, and_self, or_self, if_true, if_false, reduceIte, not_true_eq_false, not_false_eq_true, Int.reduceEq, Int.reduceNe, Int.reduceLT, Int.reduceLE, Int.reduceAdd, Int.reduceSub, Int.reduceMul, Int.reduceNeg, Nat.reduceAdd, Nat.reduceLeDiff, Nat.reduceEqDiff, ne_eq, List.length_cons, List.length_nil, Nat.reduceSub, q]
    exact this
  | x :: r, C, H, hr, h, hQ => by
    rw [rev_c] at h
    have q := fun {Q} => q_qIsOn (d := d + 2) (Q := Q) hT hPB h (v := 25)
    have ih := fun H' h' => c_dropS hT hPB r (C ++ [x]) H' (fun y hy => hr y (List.mem_cons_of_mem _ hy)) h' (fun H2 h2 => hQ H2 (by rw [← app_c]; exact h2))
    have hx : ¬ x = 25 := hr x (List.mem_cons_self ..)
    clear hQ
    rw [e_MO_qGoesOnTest_1]
    simp only [k_MO_qGoesOnTest_1, rr, sh, Nat.reduceLT, Nat.reduceMul, Int.reduceToNat, Int.reduceGT, Int.reduceGE, Int.reduceNe, true_and, and_true, true_or, or_true, false_or, or_false, and_self, or_self, if_true, if_false, reduceIte, not_true_eq_false, not_false_eq_true, Int.reduceEq, Int.reduceNe, Int.reduceLT, Int.reduceLE, Int.reduceAdd, Int.reduceSub, Int.reduceMul, Int.reduceNeg, Nat.reduceAdd, Nat.reduceLeDiff, Nat.reduceEqDiff, ne_eq, List.length_cons, List.length_nil, Nat.reduceSub, q, hx]
    exact c_qDrops hT hPB h ih
end QT1
