/-! QUESTIONS: the class's pile; arithmetic on both sides -/
/-- the class's pile holds s, the last first -/
def QSC (H : Hp) (s : List Int) : Prop := H 38 4 = (s.length : Nat) ∧ ∀ k : Nat, k < s.length → H 40 k = s.reverse.getD k 0
/-- the reference's -/
def QSM (H : Hp) (s : List Int) : Prop := H 71 94 = (s.length : Nat) ∧ ∀ k : Nat, k < s.length → H 138 k = s.reverse.getD k 0
def sST (a b : Int) : Bool := decide (a = 40) || (decide (a = 38) && decide (b = 4))
def sSM (a b : Int) : Bool := decide (a = 138) || (decide (a = 71) && decide (b = 94))
section QV1
variable {d : Nat} {V H : Hp} {Q : AV → Hp → Prop} {s : List Int} {x : Int}
theorem revD {k : Nat} (hk : k < (x :: s).length) : (x :: s).reverse.getD k 0 = if k = s.length then x else s.reverse.getD k 0 := by
  rw [List.reverse_cons]
  rw [List.length_cons] at hk
  rw [getD_app (by rw [len_s, List.length_reverse]; exact hk), List.length_reverse]
theorem QSC.push (h : QSC H s) : QSC (hs (hs H 40 (s.length : Nat) x) 38 4 ((s.length + 1 : Nat) : Int)) (x :: s) := by
  refine ⟨hs_same, fun k hk => ?_⟩
  rw [revD hk, hs_ne' (by decide), hs_at, at_z]
  by_cases c : k = s.length
  · rw [if_pos c, if_pos c]
  · rw [if_neg c, if_neg c]
    rw [List.length_cons] at hk
    exact h.2 k (lt_sN hk c)
theorem QSC.top (h : QSC H (x :: s)) : H 38 4 = ((s.length + 1 : Nat) : Int) ∧ H 40 (s.length : Nat) = x := by
  refine ⟨h.1, ?_⟩
  have l : s.length < (x :: s).length := by rw [List.length_cons]; exact Nat.lt_succ_self _
  rw [h.2 s.length l, revD l, if_pos rfl]
theorem QSC.pop (h : QSC H (x :: s)) : QSC (hs H 38 4 (s.length : Nat)) s := by
  refine ⟨hs_same, fun k hk => ?_⟩
  have l : k < (x :: s).length := by rw [List.length_cons]; exact Nat.lt_succ_of_lt hk
  rw [hs_ne' (by decide), h.2 k l, revD l, if_neg (Nat.ne_of_lt hk)]
theorem QSM.push (h : QSM H s) : QSM (hs (hs H 138 (s.length : Nat) x) 71 94 ((s.length + 1 : Nat) : Int)) (x :: s) := by
  refine ⟨hs_same, fun k hk => ?_⟩
  rw [revD hk, hs_ne' (by decide), hs_at, at_z]
  by_cases c : k = s.length
  · rw [if_pos c, if_pos c]
  · rw [if_neg c, if_neg c]
    rw [List.length_cons] at hk
    exact h.2 k (lt_sN hk c)
theorem QSM.top (h : QSM H (x :: s)) : H 71 94 = ((s.length + 1 : Nat) : Int) ∧ H 138 (s.length : Nat) = x := by
  refine ⟨h.1, ?_⟩
  have l : s.length < (x :: s).length := by rw [List.length_cons]; exact Nat.lt_succ_self _
  rw [h.2 s.length l, revD l, if_pos rfl]
theorem QSM.set (h : QSM H (x :: s)) {y : Int} : QSM (hs H 138 (s.length : Nat) y) (y :: s) := by
  refine ⟨(hs_ne' (by decide)).trans h.1, fun k hk => ?_⟩
  rw [revD hk, hs_at, at_z]
  by_cases c : k = s.length
  · rw [if_pos c, if_pos c]
  · rw [if_neg c, if_neg c]
    have l : k < (x :: s).length := hk
    rw [h.2 k l, revD l, if_neg c]
theorem QSM.pop {y : Int} (h : QSM H (x :: y :: s)) : QSM (hs H 71 94 (s.length : Nat)) s ∧ H 138 (s.length : Nat) = y := by
  have l1 : ∀ k : Nat, k < s.length + 1 → k < (x :: y :: s).length := fun k hk => by rw [List.length_cons, List.length_cons]; omega
  have l2 : ∀ k : Nat, k < s.length + 1 → k < (y :: s).length := fun k hk => by rw [List.length_cons]; exact hk
  have e : ∀ k : Nat, k < s.length + 1 → H 138 k = if k = s.length then y else s.reverse.getD k 0 := fun k hk => by
    rw [h.2 k (l1 k hk), revD (l1 k hk), if_neg (by rw [List.length_cons]; exact Nat.ne_of_lt hk), revD (l2 k hk)]
  refine ⟨⟨hs_same, fun k hk => ?_⟩, ?_⟩
  · rw [hs_ne' (by decide), e k (Nat.lt_succ_of_lt hk), if_neg (Nat.ne_of_lt hk)]
  · rw [e s.length (Nat.lt_succ_self _), if_pos rfl]
theorem q_pushC (hP : H 38 3 = 40) (h : QSC H s) (hl : s.length < 64) : CC d QU_push [va 38, vl x] H Q = Q vu (hs (hs H 40 (s.length : Nat) x) 38 4 ((s.length + 1 : Nat) : Int)) := by
  refine CC_dt fun Q hQ => ?_
  have h1 := h.1
  have c1 : ¬ (64 : Int) ≤ (s.length : Int) := il_n hl
  have j1 : 0 ≤ (s.length : Int) ∧ (s.length : Int) < 64 := ix_n hl
  have kw := w32_s (n := s.length) (Nat.lt_trans hl (by decide))
  simp only [en_QU_push, e_QU_push_0, k_QU_push_0, e_QU_push_1, k_QU_push_1, rr, sh, Nat.reduceLT, Nat.reduceMul, Int.reduceToNat, Int.reduceGT, Int.reduceGE, Int.reduceNe, true_and, and_true, true_or, or_true, false_or, or_false, and_self, or_self, if_true, if_false, reduceIte, not_true_eq_false, not_false_eq_true, Int.reduceEq, Int.reduceNe, Int.reduceLT, Int.reduceLE, Int.reduceAdd, Int.reduceSub, Int.reduceMul, Int.reduceNeg, Nat.reduceAdd, Nat.reduceLeDiff, Nat.reduceEqDiff, ne_eq, List.length_cons, List.length_nil, Nat.reduceSub, hs_app, false_and, and_false, hP, h1, c1, j1, kw]
  exact hQ
theorem q_popC (hP : H 38 3 = 40) (h : QSC H (x :: s)) (hl : s.length < 64) : CC d QU_pop [va 38] H Q = Q (vl x) (hs H 38 4 (s.length : Nat)) := by
  refine CC_dt fun Q hQ => ?_
  obtain ⟨h1, h2⟩ := h.top
  have n0 : ¬ ((s.length + 1 : Nat) : Int) = 0 := by omega
  have j1 : 0 ≤ (s.length : Int) ∧ (s.length : Int) < 64 := ix_n hl
  have kw : w32 (((s.length + 1 : Nat) : Int) - 1) = (s.length : Nat) := w_sub (a := s.length + 1) (b := 1) (Nat.le_add_left 1 _) (by omega)
  simp only [en_QU_pop, e_QU_pop_0, k_QU_pop_0, e_QU_pop_1, k_QU_pop_1, rr, sh, Nat.reduceLT, Nat.reduceMul, Int.reduceToNat, Int.reduceGT, Int.reduceGE, Int.reduceNe, true_and, and_true, true_or, or_true, false_or, or_false, and_self, or_self, if_true, if_false, reduceIte, not_true_eq_false, not_false_eq_true, Int.reduceEq, Int.reduceNe, Int.reduceLT, Int.reduceLE, Int.reduceAdd, Int.reduceSub, Int.reduceMul, Int.reduceNeg, Nat.reduceAdd, Nat.reduceLeDiff, Nat.reduceEqDiff, ne_eq, List.length_cons, List.length_nil, Nat.reduceSub, hs_app, false_and, and_false, hP, h1, h2, n0, j1, kw]
  exact hQ
theorem q_heldC : CC (d + 1) QU_held [vl x] H Q = Q (vl (qcl x)) H := by
  refine CC_dt fun Q hQ => ?_
  simp only [en_QU_held, e_QU_held_0, k_QU_held_0, rr, sh, Nat.reduceLT, Nat.reduceMul, Int.reduceToNat, Int.reduceGT, Int.reduceGE, Int.reduceNe, true_and, and_true, true_or, or_true, false_or, or_false, and_self, or_self, if_true, if_false, reduceIte, not_true_eq_false, not_false_eq_true, Int.reduceEq, Int.reduceNe, Int.reduceLT, Int.reduceLE, Int.reduceAdd, Int.reduceSub, Int.reduceMul, Int.reduceNeg, Nat.reduceAdd, Nat.reduceLeDiff, Nat.reduceEqDiff, ne_eq, List.length_cons, List.length_nil, Nat.reduceSub, q_minL, q_maxL]
  exact hQ
theorem q_clipM : CC d MO_qClip [vl x] H Q = Q (vl (qcl x)) H := by
  refine CC_dt fun Q hQ => ?_
  by_cases c1 : x ≤ 1000000
  · by_cases c2 : -1000000 ≤ x
    · rw [show qcl x = x by unfold qcl; omega] at hQ
      simp only [en_MO_qClip, e_MO_qClip_0, k_MO_qClip_0, e_MO_qClip_1, k_MO_qClip_1, e_MO_qClip_2, k_MO_qClip_2, e_MO_qClip_3, k_MO_qClip_3, rr, sh, Nat.reduceLT, Nat.reduceMul, Int.reduceToNat, Int.reduceGT, Int.reduceGE, Int.reduceNe, true_and, and_true, true_or, or_true, false_or, or_false, and_self, or_self, if_true, if_false, reduceIte, not_true_eq_false, not_false_eq_true, Int.reduceEq, Int.reduceNe, Int.reduceLT, Int.reduceLE, Int.reduceAdd, Int.reduceSub, Int.reduceMul, Int.reduceNeg, Nat.reduceAdd, Nat.reduceLeDiff, Nat.reduceEqDiff, ne_eq, List.length_cons, List.length_nil, Nat.reduceSub, c3_le, c3_ge, c1, c2]
      exact hQ
    · rw [show qcl x = -1000000 by unfold qcl; omega] at hQ
      simp only [en_MO_qClip, e_MO_qClip_0, k_MO_qClip_0, e_MO_qClip_1, k_MO_qClip_1, e_MO_qClip_2, k_MO_qClip_2, e_MO_qClip_3, k_MO_qClip_3, rr, sh, Nat.reduceLT, Nat.reduceMul, Int.reduceToNat, Int.reduceGT, Int.reduceGE, Int.reduceNe, true_and, and_true, true_or, or_true, false_or, or_false, and_self, or_self, if_true, if_false, reduceIte, not_true_eq_false, not_false_eq_true, Int.reduceEq, Int.reduceNe, Int.reduceLT, Int.reduceLE, Int.reduceAdd, Int.reduceSub, Int.reduceMul, Int.reduceNeg, Nat.reduceAdd, Nat.reduceLeDiff, Nat.reduceEqDiff, ne_eq, List.length_cons, List.length_nil, Nat.reduceSub, c3_le, c3_ge, c1, c2]
      exact hQ
  · rw [show qcl x = 1000000 by unfold qcl; omega] at hQ
    simp only [en_MO_qClip, e_MO_qClip_0, k_MO_qClip_0, e_MO_qClip_1, k_MO_qClip_1, e_MO_qClip_2, k_MO_qClip_2, e_MO_qClip_3, k_MO_qClip_3, rr, sh, Nat.reduceLT, Nat.reduceMul, Int.reduceToNat, Int.reduceGT, Int.reduceGE, Int.reduceNe, true_and, and_true, true_or, or_true, false_or, or_false, and_self, or_self, if_true, if_false, reduceIte, not_true_eq_false, not_false_eq_true, Int.reduceEq, Int.reduceNe, Int.reduceLT, Int.reduceLE, Int.reduceAdd, Int.reduceSub, Int.reduceMul, Int.reduceNeg, Nat.reduceAdd, Nat.reduceLeDiff, Nat.reduceEqDiff, ne_eq, List.length_cons, List.length_nil, Nat.reduceSub, c3_le, c3_ge, c1]
    exact hQ
theorem w64_q {z : Int} (h : -9000000000000 ≤ z ∧ z ≤ 9000000000000) : w64 z = z := w64_id (by omega) (by omega)
theorem bd_mul {x y : Int} (hx : BdQ x) (hy : BdQ y) : -1000000000000 ≤ x * y ∧ x * y ≤ 1000000000000 := by
  have h1 : x.natAbs ≤ 1000000 := by unfold BdQ at hx; omega
  have h2 : y.natAbs ≤ 1000000 := by unfold BdQ at hy; omega
  have h3 : (x * y).natAbs ≤ 1000000 * 1000000 := by rw [Int.natAbs_mul]; exact Nat.mul_le_mul h1 h2
  generalize x * y = z at *
  omega
theorem bd_add {x y : Int} (hx : BdQ x) (hy : BdQ y) : (-9000000000000 ≤ x + y ∧ x + y ≤ 9000000000000) ∧ (-9000000000000 ≤ x - y ∧ x - y ≤ 9000000000000) := by unfold BdQ at *; omega
theorem xor_ng {x y : Int} (hx : -9223372036854775808 ≤ x ∧ x < 9223372036854775808) (hy : -9223372036854775808 ≤ y ∧ y < 9223372036854775808) : (l_xor x y < 0) = ((x < 0 ∧ ¬ y < 0) ∨ (¬ x < 0 ∧ y < 0)) := by
  have ex : (Int64.ofInt x).toBitVec.toInt = x := by
    show (Int64.ofInt x).toInt = x
    exact toInt_ofInt64 (decide_eq_true hx)
  have ey : (Int64.ofInt y).toBitVec.toInt = y := by
    show (Int64.ofInt y).toInt = y
    exact toInt_ofInt64 (decide_eq_true hy)
  have h1 : (Int64.ofInt x).toBitVec.msb = decide (x < 0) := by rw [BitVec.msb_eq_toInt, ex]
  have h2 : (Int64.ofInt y).toBitVec.msb = decide (y < 0) := by rw [BitVec.msb_eq_toInt, ey]
  have h3 : ((Int64.ofInt x ^^^ Int64.ofInt y).toBitVec).msb = decide (l_xor x y < 0) := by rw [BitVec.msb_eq_toInt]; rfl
  rw [Int64.toBitVec_xor, BitVec.msb_xor, h1, h2] at h3
  apply propext
  by_cases c1 : x < 0 <;> by_cases c2 : y < 0
  · rw [decide_eq_true c1, decide_eq_true c2] at h3
    have := of_decide_eq_false h3.symm
    exact ⟨fun z => absurd z this, fun z => by omega⟩
  · rw [decide_eq_true c1, decide_eq_false c2] at h3
    have := of_decide_eq_true h3.symm
    exact ⟨fun _ => Or.inl ⟨c1, c2⟩, fun _ => this⟩
  · rw [decide_eq_false c1, decide_eq_true c2] at h3
    have := of_decide_eq_true h3.symm
    exact ⟨fun _ => Or.inr ⟨c1, c2⟩, fun _ => this⟩
  · rw [decide_eq_false c1, decide_eq_false c2] at h3
    have := of_decide_eq_false h3.symm
    exact ⟨fun z => absurd z this, fun z => by omega⟩
theorem tdiv_bd {x y : Int} (hx : BdQ x) : BdQ (x.tdiv y) := by
  have h0 : x.natAbs / y.natAbs ≤ x.natAbs := Nat.div_le_self _ _
  have h1 : (x.tdiv y).natAbs = x.natAbs / y.natAbs := Int.natAbs_tdiv x y
  generalize x.tdiv y = q at *
  generalize x.natAbs / y.natAbs = z at *
  unfold BdQ at *
  omega
theorem tmod_0 {x y : Int} : (x.tdiv y * y = x) = (x.tmod y = 0) := by
  have e1 := Int.tdiv_mul_add_tmod x y
  generalize x.tdiv y * y = u at *
  generalize x.tmod y = v at *
  apply propext
  omega
theorem q_fdC {x y : Int} (hx : BdQ x) (hy : BdQ y) (h0 : ¬ y = 0) : CC d JK_floorDiv [vl x, vl y] H Q = Q (vl (qFl x y)) H := by
  refine CC_dt fun Q hQ => ?_
  have b1 : -9223372036854775808 ≤ x ∧ x < 9223372036854775808 := by unfold BdQ at hx; omega
  have b2 : -9223372036854775808 ≤ y ∧ y < 9223372036854775808 := by unfold BdQ at hy; omega
  have hxn := xor_ng b1 b2
  have bq := tdiv_bd (y := y) hx
  have w1 : w64 (x.tdiv y) = x.tdiv y := w64_q (by unfold BdQ at bq; clear hxn hQ; omega)
  have w2 : w64 (x.tdiv y * y) = x.tdiv y * y := by have := bd_mul bq hy; exact w64_q (by clear hxn hQ w1; omega)
  have w3 : w64 (x.tdiv y - 1) = x.tdiv y - 1 := w64_q (by unfold BdQ at bq; clear hxn hQ w1 w2; omega)
  have t0 := tmod_0 (x := x) (y := y)
  unfold qFl at hQ
  rw [if_neg h0] at hQ
  by_cases c1 : (x < 0 ∧ ¬ y < 0) ∨ (¬ x < 0 ∧ y < 0)
  · have c2 : ¬ 0 ≤ l_xor x y := by rw [Int.not_le, hxn]; exact c1
    by_cases c3 : x.tmod y = 0
    · rw [if_neg (fun z => z.1 c3)] at hQ
      simp only [en_JK_floorDiv, e_JK_floorDiv_0, k_JK_floorDiv_0, e_JK_floorDiv_1, k_JK_floorDiv_1, rr, sh, Nat.reduceLT, Nat.reduceMul, Int.reduceToNat, Int.reduceGT, Int.reduceGE, Int.reduceNe, true_and, and_true, true_or, or_true, false_or, or_false, and_self, or_self, if_true, if_false, reduceIte, not_true_eq_false, not_false_eq_true, Int.reduceEq, Int.reduceNe, Int.reduceLT, Int.reduceLE, Int.reduceAdd, Int.reduceSub, Int.reduceMul, Int.reduceNeg, Nat.reduceAdd, Nat.reduceLeDiff, Nat.reduceEqDiff, ne_eq, List.length_cons, List.length_nil, Nat.reduceSub, c3_ge, c3_eq, w1, w2, h0, c2, t0, c3]
      exact hQ
    · rw [if_pos ⟨c3, c1⟩] at hQ
      simp only [en_JK_floorDiv, e_JK_floorDiv_0, k_JK_floorDiv_0, e_JK_floorDiv_1, k_JK_floorDiv_1, rr, sh, Nat.reduceLT, Nat.reduceMul, Int.reduceToNat, Int.reduceGT, Int.reduceGE, Int.reduceNe, true_and, and_true, true_or, or_true, false_or, or_false, and_self, or_self, if_true, if_false, reduceIte, not_true_eq_false, not_false_eq_true, Int.reduceEq, Int.reduceNe, Int.reduceLT, Int.reduceLE, Int.reduceAdd, Int.reduceSub, Int.reduceMul, Int.reduceNeg, Nat.reduceAdd, Nat.reduceLeDiff, Nat.reduceEqDiff, ne_eq, List.length_cons, List.length_nil, Nat.reduceSub, c3_ge, c3_eq, w1, w2, w3, h0, c2, t0, c3]
      exact hQ
  · have c2 : 0 ≤ l_xor x y := by rw [← Int.not_lt, hxn]; exact c1
    rw [if_neg (fun z => c1 z.2)] at hQ
    simp only [en_JK_floorDiv, e_JK_floorDiv_0, k_JK_floorDiv_0, e_JK_floorDiv_1, k_JK_floorDiv_1, rr, sh, Nat.reduceLT, Nat.reduceMul, Int.reduceToNat, Int.reduceGT, Int.reduceGE, Int.reduceNe, true_and, and_true, true_or, or_true, false_or, or_false, and_self, or_self, if_true, if_false, reduceIte, not_true_eq_false, not_false_eq_true, Int.reduceEq, Int.reduceNe, Int.reduceLT, Int.reduceLE, Int.reduceAdd, Int.reduceSub, Int.reduceMul, Int.reduceNeg, Nat.reduceAdd, Nat.reduceLeDiff, Nat.reduceEqDiff, ne_eq, List.length_cons, List.length_nil, Nat.reduceSub, c3_ge, w1, h0, c2]
    exact hQ
theorem q_fdM {x y : Int} (hx : BdQ x) (hy : BdQ y) : CC d MO_qFloor [vl x, vl y] H Q = Q (vl (qFl x y)) H := by
  refine CC_dt fun Q hQ => ?_
  unfold qFl at hQ
  by_cases h0 : y = 0
  · rw [if_pos h0] at hQ
    simp only [en_MO_qFloor, e_MO_qFloor_0, k_MO_qFloor_0, e_MO_qFloor_1, k_MO_qFloor_1, e_MO_qFloor_2, k_MO_qFloor_2, e_MO_qFloor_3, k_MO_qFloor_3, e_MO_qFloor_4, k_MO_qFloor_4, e_MO_qFloor_5, k_MO_qFloor_5, e_MO_qFloor_6, k_MO_qFloor_6, e_MO_qFloor_7, k_MO_qFloor_7, rr, sh, Nat.reduceLT, Nat.reduceMul, Int.reduceToNat, Int.reduceGT, Int.reduceGE, Int.reduceNe, true_and, and_true, true_or, or_true, false_or, or_false, and_self, or_self, if_true, if_false, reduceIte, not_true_eq_false, not_false_eq_true, Int.reduceEq, Int.reduceNe, Int.reduceLT, Int.reduceLE, Int.reduceAdd, Int.reduceSub, Int.reduceMul, Int.reduceNeg, Nat.reduceAdd, Nat.reduceLeDiff, Nat.reduceEqDiff, ne_eq, List.length_cons, List.length_nil, Nat.reduceSub, c3_eq, h0]
    exact hQ
  · rw [if_neg h0] at hQ
    have bq := tdiv_bd (y := y) hx
    have w1 : w64 (x.tdiv y) = x.tdiv y := w64_q (by unfold BdQ at bq; clear hQ; omega)
    have w3 : w64 (x.tdiv y - 1) = x.tdiv y - 1 := w64_q (by unfold BdQ at bq; clear hQ w1; omega)
    have bm : w64 (x.tmod y) = x.tmod y := by
      have e1 := Int.tdiv_mul_add_tmod x y
      have := bd_mul bq hy
      generalize x.tdiv y * y = u at *
      generalize x.tmod y = v at *
      exact w64_q (by unfold BdQ at hx; clear hQ w1 w3; omega)
    by_cases c3 : x.tmod y = 0
    · rw [if_neg (fun z => z.1 c3)] at hQ
      simp only [en_MO_qFloor, e_MO_qFloor_0, k_MO_qFloor_0, e_MO_qFloor_1, k_MO_qFloor_1, e_MO_qFloor_2, k_MO_qFloor_2, e_MO_qFloor_3, k_MO_qFloor_3, e_MO_qFloor_4, k_MO_qFloor_4, e_MO_qFloor_5, k_MO_qFloor_5, e_MO_qFloor_6, k_MO_qFloor_6, e_MO_qFloor_7, k_MO_qFloor_7, rr, sh, Nat.reduceLT, Nat.reduceMul, Int.reduceToNat, Int.reduceGT, Int.reduceGE, Int.reduceNe, true_and, and_true, true_or, or_true, false_or, or_false, and_self, or_self, if_true, if_false, reduceIte, not_true_eq_false, not_false_eq_true, Int.reduceEq, Int.reduceNe, Int.reduceLT, Int.reduceLE, Int.reduceAdd, Int.reduceSub, Int.reduceMul, Int.reduceNeg, Nat.reduceAdd, Nat.reduceLeDiff, Nat.reduceEqDiff, ne_eq, List.length_cons, List.length_nil, Nat.reduceSub, c3_eq, h0, w1, bm, c3]
      exact hQ
    · by_cases c1 : x < 0
      · by_cases c2 : y < 0
        · rw [if_neg (fun z => by omega)] at hQ
          have d1 : ¬ 0 ≤ x := by omega
          have d2 : ¬ 0 ≤ y := by omega
          simp only [en_MO_qFloor, e_MO_qFloor_0, k_MO_qFloor_0, e_MO_qFloor_1, k_MO_qFloor_1, e_MO_qFloor_2, k_MO_qFloor_2, e_MO_qFloor_3, k_MO_qFloor_3, e_MO_qFloor_4, k_MO_qFloor_4, e_MO_qFloor_5, k_MO_qFloor_5, e_MO_qFloor_6, k_MO_qFloor_6, e_MO_qFloor_7, k_MO_qFloor_7, rr, sh, Nat.reduceLT, Nat.reduceMul, Int.reduceToNat, Int.reduceGT, Int.reduceGE, Int.reduceNe, true_and, and_true, true_or, or_true, false_or, or_false, and_self, or_self, if_true, if_false, reduceIte, not_true_eq_false, not_false_eq_true, Int.reduceEq, Int.reduceNe, Int.reduceLT, Int.reduceLE, Int.reduceAdd, Int.reduceSub, Int.reduceMul, Int.reduceNeg, Nat.reduceAdd, Nat.reduceLeDiff, Nat.reduceEqDiff, ne_eq, List.length_cons, List.length_nil, Nat.reduceSub, c3_eq, c3_ge, h0, w1, bm, c3, d1, d2]
          exact hQ
        · rw [if_pos ⟨c3, Or.inl ⟨c1, c2⟩⟩] at hQ
          have d1 : ¬ 0 ≤ x := by omega
          have d2 : 0 ≤ y := by omega
          simp only [en_MO_qFloor, e_MO_qFloor_0, k_MO_qFloor_0, e_MO_qFloor_1, k_MO_qFloor_1, e_MO_qFloor_2, k_MO_qFloor_2, e_MO_qFloor_3, k_MO_qFloor_3, e_MO_qFloor_4, k_MO_qFloor_4, e_MO_qFloor_5, k_MO_qFloor_5, e_MO_qFloor_6, k_MO_qFloor_6, e_MO_qFloor_7, k_MO_qFloor_7, rr, sh, Nat.reduceLT, Nat.reduceMul, Int.reduceToNat, Int.reduceGT, Int.reduceGE, Int.reduceNe, true_and, and_true, true_or, or_true, false_or, or_false, and_self, or_self, if_true, if_false, reduceIte, not_true_eq_false, not_false_eq_true, Int.reduceEq, Int.reduceNe, Int.reduceLT, Int.reduceLE, Int.reduceAdd, Int.reduceSub, Int.reduceMul, Int.reduceNeg, Nat.reduceAdd, Nat.reduceLeDiff, Nat.reduceEqDiff, ne_eq, List.length_cons, List.length_nil, Nat.reduceSub, c3_eq, c3_ge, h0, w1, w3, bm, c3, d1, d2]
          exact hQ
      · by_cases c2 : y < 0
        · rw [if_pos ⟨c3, Or.inr ⟨c1, c2⟩⟩] at hQ
          have d1 : 0 ≤ x := by omega
          have d2 : ¬ 0 ≤ y := by omega
          simp only [en_MO_qFloor, e_MO_qFloor_0, k_MO_qFloor_0, e_MO_qFloor_1, k_MO_qFloor_1, e_MO_qFloor_2, k_MO_qFloor_2, e_MO_qFloor_3, k_MO_qFloor_3, e_MO_qFloor_4, k_MO_qFloor_4, e_MO_qFloor_5, k_MO_qFloor_5, e_MO_qFloor_6, k_MO_qFloor_6, e_MO_qFloor_7, k_MO_qFloor_7, rr, sh, Nat.reduceLT, Nat.reduceMul, Int.reduceToNat, Int.reduceGT, Int.reduceGE, Int.reduceNe, true_and, and_true, true_or, or_true, false_or, or_false, and_self, or_self, if_true, if_false, reduceIte, not_true_eq_false, not_false_eq_true, Int.reduceEq, Int.reduceNe, Int.reduceLT, Int.reduceLE, Int.reduceAdd, Int.reduceSub, Int.reduceMul, Int.reduceNeg, Nat.reduceAdd, Nat.reduceLeDiff, Nat.reduceEqDiff, ne_eq, List.length_cons, List.length_nil, Nat.reduceSub, c3_eq, c3_ge, h0, w1, w3, bm, c3, d1, d2]
          exact hQ
        · rw [if_neg (fun z => by omega)] at hQ
          have d1 : 0 ≤ x := by omega
          have d2 : 0 ≤ y := by omega
          simp only [en_MO_qFloor, e_MO_qFloor_0, k_MO_qFloor_0, e_MO_qFloor_1, k_MO_qFloor_1, e_MO_qFloor_2, k_MO_qFloor_2, e_MO_qFloor_3, k_MO_qFloor_3, e_MO_qFloor_4, k_MO_qFloor_4, e_MO_qFloor_5, k_MO_qFloor_5, e_MO_qFloor_6, k_MO_qFloor_6, e_MO_qFloor_7, k_MO_qFloor_7, rr, sh, Nat.reduceLT, Nat.reduceMul, Int.reduceToNat, Int.reduceGT, Int.reduceGE, Int.reduceNe, true_and, and_true, true_or, or_true, false_or, or_false, and_self, or_self, if_true, if_false, reduceIte, not_true_eq_false, not_false_eq_true, Int.reduceEq, Int.reduceNe, Int.reduceLT, Int.reduceLE, Int.reduceAdd, Int.reduceSub, Int.reduceMul, Int.reduceNeg, Nat.reduceAdd, Nat.reduceLeDiff, Nat.reduceEqDiff, ne_eq, List.length_cons, List.length_nil, Nat.reduceSub, c3_eq, c3_ge, h0, w1, bm, c3, d1, d2]
          exact hQ
end QV1
