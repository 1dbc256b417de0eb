/-! swings, wants, lawful sides: what both sides answer, told in the reference's cells -/
theorem CC_dt {d m : Nat} {args : List AV} {H H' : Hp} {r : AV} (h : ∀ Q : AV → Hp → Prop, Q r H' → CC d m args H Q) {Q : AV → Hp → Prop} : CC d m args H Q = Q r H' := CC_det (h _ ⟨rfl, rfl⟩)
def Inm (V : Hp) : Prop := Ptr V ∧ BoatM V ∧ CrewM V
theorem Inm.ptr {V : Hp} (h : Inm V) : Ptr V := h.1
theorem Inm.boat {V : Hp} (h : Inm V) : BoatM V := h.2.1
theorem Inm.crew {V : Hp} (h : Inm V) : CrewM V := h.2.2
theorem Inq.m {V : Hp} (h : Inq V) : Inm V := ⟨h.1, h.2.1, h.2.2.1⟩
def abL (x : Int) : Int := if x < 0 then w64 (-x) else x
def wnt (V : Hp) (q : Nat) : Bool := decide (V 100 (4 + q) = 1)
def gapA (V : Hp) (q b : Nat) (t : Int) : Int := abL (w64 (w64 (sww V q b t) - V 101 (4 + q)))
def offV (V : Hp) (b : Nat) (t : Int) : Int := w64 (sumI (fun q => if wnt V q = true then gapA V q b t else 0) 4)
def goodB (V : Hp) (b : Nat) (t : Int) : Bool := decide (∀ q : Nat, q < 4 → wnt V q = true → gapA V q b t ≤ V 99 1)
def lawB (V : Hp) (b : Nat) : Bool := decide ((eaV V = -1 ∨ (nS V : Int) - pop b = eaV V) ∧ ∀ k : Nat, k < nS V → V 94 (12 + k) ≠ 0 → (b.testBit k = decide (V 94 (12 + k) = 2)))
section SW
variable {d : Nat} {V H : Hp} {Q : AV → Hp → Prop}
theorem q_bitCount {n : Nat} (h : n < 4096) : CC d JK_bitCount [vi n] H Q = Q (vi (pop n)) H := by
  refine CC_dt fun Q hQ => ?_
  simp only [en_JK_bitCount, e_JK_bitCount_0, k_JK_bitCount_0, rr, sh, Nat.reduceLT, Nat.reduceMul, Int.reduceToNat, Int.reduceGT, Int.reduceGE, Int.reduceNe, true_and, and_true, true_or, or_true, false_or, or_false, and_self, or_self, if_true, if_false, reduceIte, not_true_eq_false, not_false_eq_true, Int.reduceEq, Int.reduceNe, Int.reduceLT, Int.reduceLE, Int.reduceAdd, Int.reduceSub, Int.reduceMul, Int.reduceNeg, Nat.reduceAdd, Nat.reduceLeDiff, Nat.reduceEqDiff, ne_eq, List.length_cons, List.length_nil, Nat.reduceSub, ite10_0, ite10_1, ite10_01, Classical.not_not]
  (repeat (refine And.intro (by omega) ?_))
  rw [← bcE_ok h] at hQ
  exact hQ
theorem q_absL {x : Int} : CC d JK_absL [vl x] H Q = Q (vl (abL x)) H := by
  unfold abL
  simp only [en_JK_absL, e_JK_absL_0, k_JK_absL_0, e_JK_absL_1, k_JK_absL_1, e_JK_absL_2, k_JK_absL_2, rr, sh, Nat.reduceLT, Nat.reduceMul, Int.reduceToNat, Int.reduceGT, Int.reduceGE, Int.reduceNe, true_and, and_true, true_or, or_true, false_or, or_false, and_self, or_self, if_true, if_false, reduceIte, not_true_eq_false, not_false_eq_true, Int.reduceEq, Int.reduceNe, Int.reduceLT, Int.reduceLE, Int.reduceAdd, Int.reduceSub, Int.reduceMul, Int.reduceNeg, Nat.reduceAdd, Nat.reduceLeDiff, Nat.reduceEqDiff, ne_eq, List.length_cons, List.length_nil, Nat.reduceSub, ite10_0, ite10_1, ite10_01, Classical.not_not, c3_ge]
  split <;> split <;> first | rfl | omega
theorem q_size {x : Int} : CC d MO_size [vl x] H Q = Q (vl (abL x)) H := by
  unfold abL
  simp only [en_MO_size, e_MO_size_0, k_MO_size_0, e_MO_size_1, k_MO_size_1, e_MO_size_2, k_MO_size_2, rr, sh, Nat.reduceLT, Nat.reduceMul, Int.reduceToNat, Int.reduceGT, Int.reduceGE, Int.reduceNe, true_and, and_true, true_or, or_true, false_or, or_false, and_self, or_self, if_true, if_false, reduceIte, not_true_eq_false, not_false_eq_true, Int.reduceEq, Int.reduceNe, Int.reduceLT, Int.reduceLE, Int.reduceAdd, Int.reduceSub, Int.reduceMul, Int.reduceNeg, Nat.reduceAdd, Nat.reduceLeDiff, Nat.reduceEqDiff, ne_eq, List.length_cons, List.length_nil, Nat.reduceSub, ite10_0, ite10_1, ite10_01, Classical.not_not, c3_ge]
  split <;> split <;> first | rfl | omega
theorem q_isIn {x y z : Int} : CC d MO_isIn [vl x, vl y, vl z] H Q = Q (vi (if y ≤ x ∧ x ≤ z then 1 else 0)) H := by
  simp only [en_MO_isIn, e_MO_isIn_0, k_MO_isIn_0, e_MO_isIn_1, k_MO_isIn_1, e_MO_isIn_2, k_MO_isIn_2, rr, sh, Nat.reduceLT, Nat.reduceMul, Int.reduceToNat, Int.reduceGT, Int.reduceGE, Int.reduceNe, true_and, and_true, true_or, or_true, false_or, or_false, and_self, or_self, if_true, if_false, reduceIte, not_true_eq_false, not_false_eq_true, Int.reduceEq, Int.reduceNe, Int.reduceLT, Int.reduceLE, Int.reduceAdd, Int.reduceSub, Int.reduceMul, Int.reduceNeg, Nat.reduceAdd, Nat.reduceLeDiff, Nat.reduceEqDiff, ne_eq, List.length_cons, List.length_nil, Nat.reduceSub, ite10_0, ite10_1, ite10_01, Classical.not_not, c3_lt, c3_gt]
  split <;> (try split) <;> (try split) <;> first | rfl | omega
set_option maxRecDepth 20000 in
set_option maxHeartbeats 4000000 in
theorem q_strengthAtM (hM : Inm V) (hH : Vw V H) {r t : Int} (hr : 0 ≤ r ∧ r < nR V) (ht : 0 ≤ t) (ht2 : t ≤ 100000) : CC d MO_strengthAt [va 71, vi r, vi t] H Q = Q (vi (stg V r t)) H := by
  refine CC_dt fun Q hQ => ?_
  obtain ⟨k, rfl⟩ := Int.eq_ofNat_of_zero_le hr.1
  have hk : k < nR V := by omega
  have hn := hM.boat.r
  have b1 := hM.boat.str k hk
  have b2 := hM.boat.tire k hk
  have hm : 0 ≤ V 97 (12 + k) * (t / 10) ∧ V 97 (12 + k) * (t / 10) ≤ 9 * 10000 := ⟨Int.mul_nonneg b2.1 (by omega), Int.mul_le_mul b2.2 (by omega) (by omega) (by omega)⟩
  have w0 : w32 (12 + (k : Int)) = 12 + k := w32_id (by omega) (by omega)
  have w1 : w32 (t.tdiv 10) = t / 10 := by rw [tdiv_nn ht]; exact w32_id (by omega) (by omega)
  have w2 : w32 (V 97 (12 + k) * (t / 10)) = V 97 (12 + k) * (t / 10) := w32_id (by omega) (by omega)
  have w3 : w32 (V 96 (12 + k) - V 97 (12 + k) * (t / 10)) = V 96 (12 + k) - V 97 (12 + k) * (t / 10) := w32_id (by omega) (by omega)
  have e : stg V k t = if 0 ≤ V 96 (12 + k) - V 97 (12 + k) * (t / 10) then V 96 (12 + k) - V 97 (12 + k) * (t / 10) else 0 := by unfold stg; omega
  rw [e] at hQ
  have f := hH.f hM.ptr; simp only [en_MO_strengthAt, e_MO_strengthAt_0, k_MO_strengthAt_0, e_MO_strengthAt_1, k_MO_strengthAt_1, e_MO_strengthAt_2, k_MO_strengthAt_2, rr, sh, Nat.reduceLT, Nat.reduceMul, Int.reduceToNat, Int.reduceGT, Int.reduceGE, Int.reduceNe, true_and, and_true, true_or, or_true, false_or, or_false, and_self, or_self, if_true, if_false, reduceIte, not_true_eq_false, not_false_eq_true, Int.reduceEq, Int.reduceNe, Int.reduceLT, Int.reduceLE, Int.reduceAdd, Int.reduceSub, Int.reduceMul, Int.reduceNeg, Nat.reduceAdd, Nat.reduceLeDiff, Nat.reduceEqDiff, ne_eq, List.length_cons, List.length_nil, Nat.reduceSub, ite10_0, ite10_1, ite10_01, Classical.not_not, f, w0, w1, w2, w3] <;> clear f w0 w1 w2 w3
  (repeat (refine And.intro (by omega) ?_))
  split at hQ
  · rw [if_pos (by assumption)]; exact hQ
  · rw [if_neg (by assumption)]; exact hQ
theorem stg_rng (hM : Inm V) {r t : Int} (hr : 0 ≤ r ∧ r < nR V) (ht : 0 ≤ t) : 0 ≤ stg V r t ∧ stg V r t ≤ 99 := by
  obtain ⟨k, rfl⟩ := Int.eq_ofNat_of_zero_le hr.1
  have b1 := hM.boat.str k (by omega)
  have b2 := hM.boat.tire k (by omega)
  have hm : 0 ≤ V 97 (12 + k) * (t / 10) := Int.mul_nonneg b2.1 (by omega)
  unfold stg
  omega
theorem frc_z {k : Nat} {t : Int} (h : nS V = 0 ∧ V 107 k = 0 ∧ V 96 12 = 0 ∧ V 97 12 = 0) : frc V k t = 0 := by
  unfold frc stg
  rw [h.2.1, if_neg (by decide), show (12 : Int) + 0 = 12 from rfl, h.2.2.1, h.2.2.2, Int.zero_mul]
  rfl
theorem frc_rng (hM : Inm V) {k : Nat} {t : Int} (hk : k < 12) (ht : 0 ≤ t) : 0 ≤ frc V k t ∧ frc V k t ≤ 99 := by
  by_cases hkn : k < nS V
  · have hs := hM.crew.sits k hkn
    unfold frc
    split
    · omega
    · exact stg_rng hM ⟨by omega, hs.2⟩ ht
  · rcases hM.crew.off k (Nat.not_lt.mp hkn) hk with h | h
    · unfold frc; rw [if_pos h]; decide
    · rw [frc_z h]; decide
set_option maxRecDepth 20000 in
set_option maxHeartbeats 4000000 in
theorem q_pullOf (hM : Inm V) (hH : Vw V H) {k : Nat} {t : Int} (hk : k < nS V) (ht : 0 ≤ t) (ht2 : t ≤ 100000) : CC (d + 1) MO_pullOf [va 71, vi k, vi t] H Q = Q (vi (frc V k t * V 93 (12 + k))) H := by
  refine CC_dt fun Q hQ => ?_
  have hn := hM.boat.s
  have hs := hM.crew.sits k (by omega)
  have b1 := hM.boat.arm k hk
  have w0 : w32 (12 + (k : Int)) = 12 + k := w32_id (by omega) (by omega)
  by_cases h : V 107 k = -1
  · have e : frc V k t = 0 := if_pos h
    rw [e, Int.zero_mul] at hQ
    have f := hH.f hM.ptr; simp only [en_MO_pullOf, e_MO_pullOf_0, k_MO_pullOf_0, e_MO_pullOf_1, k_MO_pullOf_1, e_MO_pullOf_2, k_MO_pullOf_2, rr, sh, Nat.reduceLT, Nat.reduceMul, Int.reduceToNat, Int.reduceGT, Int.reduceGE, Int.reduceNe, true_and, and_true, true_or, or_true, false_or, or_false, and_self, or_self, if_true, if_false, reduceIte, not_true_eq_false, not_false_eq_true, Int.reduceEq, Int.reduceNe, Int.reduceLT, Int.reduceLE, Int.reduceAdd, Int.reduceSub, Int.reduceMul, Int.reduceNeg, Nat.reduceAdd, Nat.reduceLeDiff, Nat.reduceEqDiff, ne_eq, List.length_cons, List.length_nil, Nat.reduceSub, ite10_0, ite10_1, ite10_01, Classical.not_not, f, h] <;> clear f
    (repeat (refine And.intro (by omega) ?_))
    exact hQ
  · have e : frc V k t = stg V (V 107 k) t := if_neg h
    have b2 := frc_rng hM (show k < 12 by omega) ht
    have hm : 0 ≤ frc V k t * V 93 (12 + k) ∧ frc V k t * V 93 (12 + k) ≤ 99 * 99 := ⟨Int.mul_nonneg b2.1 (by omega), Int.mul_le_mul b2.2 b1.2 (by omega) (by omega)⟩
    have w2 : w32 (frc V k t * V 93 (12 + k)) = frc V k t * V 93 (12 + k) := w32_id (by omega) (by omega)
    rw [e] at w2 hQ
    have f := hH.f hM.ptr; simp only [en_MO_pullOf, e_MO_pullOf_0, k_MO_pullOf_0, e_MO_pullOf_1, k_MO_pullOf_1, e_MO_pullOf_2, k_MO_pullOf_2, rr, sh, Nat.reduceLT, Nat.reduceMul, Int.reduceToNat, Int.reduceGT, Int.reduceGE, Int.reduceNe, true_and, and_true, true_or, or_true, false_or, or_false, and_self, or_self, if_true, if_false, reduceIte, not_true_eq_false, not_false_eq_true, Int.reduceEq, Int.reduceNe, Int.reduceLT, Int.reduceLE, Int.reduceAdd, Int.reduceSub, Int.reduceMul, Int.reduceNeg, Nat.reduceAdd, Nat.reduceLeDiff, Nat.reduceEqDiff, ne_eq, List.length_cons, List.length_nil, Nat.reduceSub, ite10_0, ite10_1, ite10_01, Classical.not_not, f, h, q_strengthAtM hM hH (show 0 ≤ V 107 k ∧ V 107 k < nR V from ⟨by omega, hs.2⟩) ht ht2, w0, w2] <;> clear f w0 w2
    (repeat (refine And.intro (by omega) ?_))
    exact hQ
theorem q_raised {x : Int} {n : Nat} (hn : n < 100) : CC d MO_raised [vi x, vi n] H Q = Q (vl (w64 (x ^ n))) H := by
  refine CC_dt fun Q hQ => ?_
  simp only [en_MO_raised, e_MO_raised_0, k_MO_raised_0, rr, sh, Nat.reduceLT, Nat.reduceMul, Int.reduceToNat, Int.reduceGT, Int.reduceGE, Int.reduceNe, true_and, and_true, true_or, or_true, false_or, or_false, and_self, or_self, if_true, if_false, reduceIte, not_true_eq_false, not_false_eq_true, Int.reduceEq, Int.reduceNe, Int.reduceLT, Int.reduceLE, Int.reduceAdd, Int.reduceSub, Int.reduceMul, Int.reduceNeg, Nat.reduceAdd, Nat.reduceLeDiff, Nat.reduceEqDiff, ne_eq, List.length_cons, List.length_nil, Nat.reduceSub, ite10_0, ite10_1, ite10_01, Classical.not_not]
  (repeat (refine And.intro (by omega) ?_))
  refine R_cg (up_nat (P := fun k => R d MO_raised (blk MO_raised 1) [vi x, vi n, vl (w64 (x ^ k)), vu, vi k] [] H Q) ?_ ?_ 0 (Nat.zero_le n)) (by rw [Int.pow_zero]; rfl) rfl
  · rw [e_MO_raised_1]
    simp only [k_MO_raised_1, en_MO_raised, e_MO_raised_0, k_MO_raised_0, e_MO_raised_2, k_MO_raised_2, rr, sh, Nat.reduceLT, Nat.reduceMul, Int.reduceToNat, Int.reduceGT, Int.reduceGE, Int.reduceNe, true_and, and_true, true_or, or_true, false_or, or_false, and_self, or_self, if_true, if_false, reduceIte, not_true_eq_false, not_false_eq_true, Int.reduceEq, Int.reduceNe, Int.reduceLT, Int.reduceLE, Int.reduceAdd, Int.reduceSub, Int.reduceMul, Int.reduceNeg, Nat.reduceAdd, Nat.reduceLeDiff, Nat.reduceEqDiff, ne_eq, List.length_cons, List.length_nil, Nat.reduceSub, ite10_0, ite10_1, ite10_01, Classical.not_not, Int.le_refl]
    exact hQ
  · intro k hk ih
    have c1 : ¬ (n : Int) ≤ k := by omega
    rw [e_MO_raised_1]
    simp only [k_MO_raised_1, en_MO_raised, e_MO_raised_0, k_MO_raised_0, e_MO_raised_2, k_MO_raised_2, rr, sh, Nat.reduceLT, Nat.reduceMul, Int.reduceToNat, Int.reduceGT, Int.reduceGE, Int.reduceNe, true_and, and_true, true_or, or_true, false_or, or_false, and_self, or_self, if_true, if_false, reduceIte, not_true_eq_false, not_false_eq_true, Int.reduceEq, Int.reduceNe, Int.reduceLT, Int.reduceLE, Int.reduceAdd, Int.reduceSub, Int.reduceMul, Int.reduceNeg, Nat.reduceAdd, Nat.reduceLeDiff, Nat.reduceEqDiff, ne_eq, List.length_cons, List.length_nil, Nat.reduceSub, ite10_0, ite10_1, ite10_01, Classical.not_not, c1, w32_s (show k < 2147483647 by omega), w64_ml]
    rw [Int.pow_succ] at ih
    exact ih
set_option maxRecDepth 20000 in
set_option maxHeartbeats 4000000 in
theorem q_swingBy (hM : Inm V) (hH : Vw V H) {q b : Nat} {t : Int} (hq : q < 4) (hb : b < 4096) (ht : 0 ≤ t) (ht2 : t ≤ 100000) : CC (d + 2) MO_swingBy [va 71, vi q, vi b, vi t] H Q = Q (vl (w64 (sww V q b t))) H := by
  refine CC_dt fun Q hQ => ?_
  have hn := hM.boat.s
  have f := hH.f hM.ptr; simp only [en_MO_swingBy, e_MO_swingBy_0, k_MO_swingBy_0, rr, sh, Nat.reduceLT, Nat.reduceMul, Int.reduceToNat, Int.reduceGT, Int.reduceGE, Int.reduceNe, true_and, and_true, true_or, or_true, false_or, or_false, and_self, or_self, if_true, if_false, reduceIte, not_true_eq_false, not_false_eq_true, Int.reduceEq, Int.reduceNe, Int.reduceLT, Int.reduceLE, Int.reduceAdd, Int.reduceSub, Int.reduceMul, Int.reduceNeg, Nat.reduceAdd, Nat.reduceLeDiff, Nat.reduceEqDiff, ne_eq, List.length_cons, List.length_nil, Nat.reduceSub, ite10_0, ite10_1, ite10_01, Classical.not_not, f] <;> clear f
  (repeat (refine And.intro (by omega) ?_))
  refine up_nat (P := fun k => ∀ z, R (d + 2) MO_swingBy (blk MO_swingBy 1) [va 71, vi q, vi b, vi t, vl (w64 (sumI (fun k => sgn (b.testBit k) (frc V k t * lvr V q k)) k)), vu, vi k, z, vu] [] H Q) ?_ ?_ 0 (Nat.zero_le (nS V)) vu
  · intro z
    rw [e_MO_swingBy_1]
    have f := hH.f hM.ptr; simp only [k_MO_swingBy_1, en_MO_swingBy, e_MO_swingBy_0, k_MO_swingBy_0, e_MO_swingBy_2, k_MO_swingBy_2, e_MO_swingBy_3, k_MO_swingBy_3, e_MO_swingBy_4, k_MO_swingBy_4, en_MO_seats, e_MO_seats_0, k_MO_seats_0, rr, sh, Nat.reduceLT, Nat.reduceMul, Int.reduceToNat, Int.reduceGT, Int.reduceGE, Int.reduceNe, true_and, and_true, true_or, or_true, false_or, or_false, and_self, or_self, if_true, if_false, reduceIte, not_true_eq_false, not_false_eq_true, Int.reduceEq, Int.reduceNe, Int.reduceLT, Int.reduceLE, Int.reduceAdd, Int.reduceSub, Int.reduceMul, Int.reduceNeg, Nat.reduceAdd, Nat.reduceLeDiff, Nat.reduceEqDiff, ne_eq, List.length_cons, List.length_nil, Nat.reduceSub, ite10_0, ite10_1, ite10_01, Classical.not_not, f, hn.1, Int.le_refl] <;> clear f
    exact hQ
  · intro k hk ih z
    have c1 : ¬ (nS V : Int) ≤ k := by omega
    have w0 : w32 (12 + (k : Int)) = 12 + k := w32_id (by omega) (by omega)
    have e0 : frc V k t * lvr V q k = frc V k t * V 93 (12 + k) * V 92 (12 + k) ^ q := by unfold lvr; rw [Int.mul_assoc]
    rw [e_MO_swingBy_1]
    have f := hH.f hM.ptr; simp only [k_MO_swingBy_1, en_MO_swingBy, e_MO_swingBy_0, k_MO_swingBy_0, e_MO_swingBy_2, k_MO_swingBy_2, e_MO_swingBy_3, k_MO_swingBy_3, e_MO_swingBy_4, k_MO_swingBy_4, en_MO_seats, e_MO_seats_0, k_MO_seats_0, rr, sh, Nat.reduceLT, Nat.reduceMul, Int.reduceToNat, Int.reduceGT, Int.reduceGE, Int.reduceNe, true_and, and_true, true_or, or_true, false_or, or_false, and_self, or_self, if_true, if_false, reduceIte, not_true_eq_false, not_false_eq_true, Int.reduceEq, Int.reduceNe, Int.reduceLT, Int.reduceLE, Int.reduceAdd, Int.reduceSub, Int.reduceMul, Int.reduceNeg, Nat.reduceAdd, Nat.reduceLeDiff, Nat.reduceEqDiff, ne_eq, List.length_cons, List.length_nil, Nat.reduceSub, ite10_0, ite10_1, ite10_01, Classical.not_not, f, hn.1, c1, q_pullOf hM hH hk ht ht2, q_raised (show q < 100 by omega), b_bit (show b < 2147483648 by omega) (show k < 32 by omega), w0, w32_s (show k < 2147483647 by omega)] <;> clear f w0
    (repeat (refine And.intro (by omega) ?_))
    have e1 : w64 (frc V k t * V 93 (12 + k) * w64 (V 92 (12 + k) ^ q)) = w64 (frc V k t * lvr V q k) := by rw [w64_mr, e0]
    have e2 : w64 (w64 (sumI (fun k => sgn (b.testBit k) (frc V k t * lvr V q k)) k) + (if b.testBit k = true then w64 (frc V k t * lvr V q k) else w64 (-w64 (frc V k t * lvr V q k)))) = w64 (sumI (fun k => sgn (b.testBit k) (frc V k t * lvr V q k)) (k + 1)) := by
      show _ = w64 (_ + sgn _ _)
      unfold sgn
      by_cases hb : b.testBit k = true
      · simp only [hb, if_true, w64_al, w64_ar]
      · simp only [hb, if_false, w64_al, w64_ar, w64_neg, Bool.false_eq_true]
    rw [e1]
    by_cases hb : b.testBit k = true
    · rw [if_pos hb] at e2
      rw [if_neg (fun h => h hb), e2]
      exact ih _
    · rw [if_neg hb] at e2
      rw [if_pos hb, e2]
      exact ih _
set_option maxRecDepth 20000 in
set_option maxHeartbeats 4000000 in
theorem q_offBy (hM : Inm V) (hH : Vw V H) {b : Nat} (hb : b < 4096) : CC (d + 3) MO_offBy [va 71, vi b] H Q = Q (vl (offV V b (V 71 47))) H := by
  refine CC_dt fun Q hQ => ?_
  have ht := hM.crew.stroke
  have f := hH.f hM.ptr; simp only [en_MO_offBy, e_MO_offBy_0, k_MO_offBy_0, rr, sh, Nat.reduceLT, Nat.reduceMul, Int.reduceToNat, Int.reduceGT, Int.reduceGE, Int.reduceNe, true_and, and_true, true_or, or_true, false_or, or_false, and_self, or_self, if_true, if_false, reduceIte, not_true_eq_false, not_false_eq_true, Int.reduceEq, Int.reduceNe, Int.reduceLT, Int.reduceLE, Int.reduceAdd, Int.reduceSub, Int.reduceMul, Int.reduceNeg, Nat.reduceAdd, Nat.reduceLeDiff, Nat.reduceEqDiff, ne_eq, List.length_cons, List.length_nil, Nat.reduceSub, ite10_0, ite10_1, ite10_01, Classical.not_not, f] <;> clear f
  (repeat (refine And.intro (by omega) ?_))
  refine up_nat (P := fun k => R (d + 3) MO_offBy (blk MO_offBy 1) [va 71, vi b, vl (w64 (sumI (fun q => if wnt V q = true then gapA V q b (V 71 47) else 0) k)), vu, vi k] [] H Q) ?_ ?_ 0 (Nat.zero_le 4)
  · rw [e_MO_offBy_1]
    have f := hH.f hM.ptr; simp only [k_MO_offBy_1, en_MO_offBy, e_MO_offBy_0, k_MO_offBy_0, e_MO_offBy_2, k_MO_offBy_2, e_MO_offBy_3, k_MO_offBy_3, rr, sh, Nat.reduceLT, Nat.reduceMul, Int.reduceToNat, Int.reduceGT, Int.reduceGE, Int.reduceNe, true_and, and_true, true_or, or_true, false_or, or_false, and_self, or_self, if_true, if_false, reduceIte, not_true_eq_false, not_false_eq_true, Int.reduceEq, Int.reduceNe, Int.reduceLT, Int.reduceLE, Int.reduceAdd, Int.reduceSub, Int.reduceMul, Int.reduceNeg, Nat.reduceAdd, Nat.reduceLeDiff, Nat.reduceEqDiff, ne_eq, List.length_cons, List.length_nil, Nat.reduceSub, ite10_0, ite10_1, ite10_01, Classical.not_not, f, Int.le_refl] <;> clear f
    exact hQ
  · intro k hk ih
    have c1 : ¬ (4 : Int) ≤ k := by omega
    have w0 : w32 (4 + (k : Int)) = 4 + k := w32_id (by omega) (by omega)
    have hw := hM.boat.isw k hk
    rw [e_MO_offBy_1]
    have f := hH.f hM.ptr; simp only [k_MO_offBy_1, en_MO_offBy, e_MO_offBy_0, k_MO_offBy_0, e_MO_offBy_2, k_MO_offBy_2, e_MO_offBy_3, k_MO_offBy_3, en_MO_isWantedOf, e_MO_isWantedOf_0, k_MO_isWantedOf_0, e_MO_isWantedOf_1, k_MO_isWantedOf_1, e_MO_isWantedOf_2, k_MO_isWantedOf_2, rr, sh, Nat.reduceLT, Nat.reduceMul, Int.reduceToNat, Int.reduceGT, Int.reduceGE, Int.reduceNe, true_and, and_true, true_or, or_true, false_or, or_false, and_self, or_self, if_true, if_false, reduceIte, not_true_eq_false, not_false_eq_true, Int.reduceEq, Int.reduceNe, Int.reduceLT, Int.reduceLE, Int.reduceAdd, Int.reduceSub, Int.reduceMul, Int.reduceNeg, Nat.reduceAdd, Nat.reduceLeDiff, Nat.reduceEqDiff, ne_eq, List.length_cons, List.length_nil, Nat.reduceSub, ite10_0, ite10_1, ite10_01, Classical.not_not, f, c1, w0, q_swingBy hM hH hk hb ht.1 (Int.le_trans ht.2 (by decide)), q_size, w32_s (show k < 2147483647 by omega)] <;> clear f w0
    by_cases h : V 100 (4 + k) = 1
    · have e1 : wnt V k = true := decide_eq_true h
      rw [if_neg (fun q => q h)]
      (repeat (refine And.intro (by omega) ?_))
      refine R_cg ih (congrArg (fun z => [va 71, vi (b : Int), vl z, vu, vi ((k + 1 : Nat) : Int)]) ?_) rfl
      show w64 (_ + gapA V k b (V 71 47)) = w64 (_ + (if wnt V k = true then gapA V k b (V 71 47) else 0))
      rw [if_pos e1, w64_al]
    · have e1 : ¬ wnt V k = true := fun q => h (of_decide_eq_true q)
      rw [if_pos h]
      (repeat (refine And.intro (by omega) ?_))
      refine R_cg ih (congrArg (fun z => [va 71, vi (b : Int), vl z, vu, vi ((k + 1 : Nat) : Int)]) ?_) rfl
      show _ = w64 (_ + (if wnt V k = true then gapA V k b (V 71 47) else 0))
      rw [if_neg e1, Int.add_zero]
set_option maxRecDepth 20000 in
set_option maxHeartbeats 4000000 in
theorem q_isGoodM (hM : Inm V) (hH : Vw V H) {b : Nat} (hb : b < 4096) : CC (d + 3) MO_isGood [va 71, vi b] H Q = Q (vi (if goodB V b (V 71 47) = true then 1 else 0)) H := by
  refine CC_dt fun Q hQ => ?_
  have ht := hM.crew.stroke
  have f := hH.f hM.ptr; simp only [en_MO_isGood, e_MO_isGood_0, k_MO_isGood_0, rr, sh, Nat.reduceLT, Nat.reduceMul, Int.reduceToNat, Int.reduceGT, Int.reduceGE, Int.reduceNe, true_and, and_true, true_or, or_true, false_or, or_false, and_self, or_self, if_true, if_false, reduceIte, not_true_eq_false, not_false_eq_true, Int.reduceEq, Int.reduceNe, Int.reduceLT, Int.reduceLE, Int.reduceAdd, Int.reduceSub, Int.reduceMul, Int.reduceNeg, Nat.reduceAdd, Nat.reduceLeDiff, Nat.reduceEqDiff, ne_eq, List.length_cons, List.length_nil, Nat.reduceSub, ite10_0, ite10_1, ite10_01, Classical.not_not, f] <;> clear f
  (repeat (refine And.intro (by omega) ?_))
  refine up_nat (P := fun k => (∀ q : Nat, q < k → wnt V q = true → gapA V q b (V 71 47) ≤ V 99 1) → R (d + 3) MO_isGood (blk MO_isGood 1) [va 71, vi b, vi k] [] H Q) ?_ ?_ 0 (Nat.zero_le 4) (fun q hq => absurd hq (Nat.not_lt_zero q))
  · intro hg
    rw [if_pos (show goodB V b (V 71 47) = true from decide_eq_true hg)] at hQ
    rw [e_MO_isGood_1]
    have f := hH.f hM.ptr; simp only [k_MO_isGood_1, en_MO_isGood, e_MO_isGood_0, k_MO_isGood_0, e_MO_isGood_2, k_MO_isGood_2, e_MO_isGood_3, k_MO_isGood_3, rr, sh, Nat.reduceLT, Nat.reduceMul, Int.reduceToNat, Int.reduceGT, Int.reduceGE, Int.reduceNe, true_and, and_true, true_or, or_true, false_or, or_false, and_self, or_self, if_true, if_false, reduceIte, not_true_eq_false, not_false_eq_true, Int.reduceEq, Int.reduceNe, Int.reduceLT, Int.reduceLE, Int.reduceAdd, Int.reduceSub, Int.reduceMul, Int.reduceNeg, Nat.reduceAdd, Nat.reduceLeDiff, Nat.reduceEqDiff, ne_eq, List.length_cons, List.length_nil, Nat.reduceSub, ite10_0, ite10_1, ite10_01, Classical.not_not, f, Int.le_refl] <;> clear f
    exact hQ
  · intro k hk ih hg
    have c1 : ¬ (4 : Int) ≤ k := by omega
    have w0 : w32 (4 + (k : Int)) = 4 + k := w32_id (by omega) (by omega)
    rw [e_MO_isGood_1]
    have f := hH.f hM.ptr; simp only [k_MO_isGood_1, en_MO_isGood, e_MO_isGood_0, k_MO_isGood_0, e_MO_isGood_2, k_MO_isGood_2, e_MO_isGood_3, k_MO_isGood_3, en_MO_isWantedOf, e_MO_isWantedOf_0, k_MO_isWantedOf_0, e_MO_isWantedOf_1, k_MO_isWantedOf_1, e_MO_isWantedOf_2, k_MO_isWantedOf_2, en_MO_near, e_MO_near_0, k_MO_near_0, rr, sh, Nat.reduceLT, Nat.reduceMul, Int.reduceToNat, Int.reduceGT, Int.reduceGE, Int.reduceNe, true_and, and_true, true_or, or_true, false_or, or_false, and_self, or_self, if_true, if_false, reduceIte, not_true_eq_false, not_false_eq_true, Int.reduceEq, Int.reduceNe, Int.reduceLT, Int.reduceLE, Int.reduceAdd, Int.reduceSub, Int.reduceMul, Int.reduceNeg, Nat.reduceAdd, Nat.reduceLeDiff, Nat.reduceEqDiff, ne_eq, List.length_cons, List.length_nil, Nat.reduceSub, ite10_0, ite10_1, ite10_01, Classical.not_not, f, c1, w0, q_swingBy hM hH hk hb ht.1 (Int.le_trans ht.2 (by decide)), q_size, c3_le, w32_s (show k < 2147483647 by omega)] <;> clear f w0
    by_cases h : V 100 (4 + k) = 1
    · have e1 : wnt V k = true := decide_eq_true h
      rw [if_neg (fun q => q h)]
      (repeat (refine And.intro (by omega) ?_))
      show if gapA V k b (V 71 47) ≤ V 99 1 then _ else _
      by_cases hc : gapA V k b (V 71 47) ≤ V 99 1
      · rw [if_pos hc]
        exact ih (fun q hq => by rcases Nat.lt_or_ge q k with h1 | h1; exact hg q h1; rw [show q = k by omega]; exact fun _ => hc)
      · rw [if_neg hc]
        rw [if_neg (show ¬ goodB V b (V 71 47) = true from fun q => hc (of_decide_eq_true q k hk e1))] at hQ
        exact hQ
    · have e1 : ¬ wnt V k = true := fun q => h (of_decide_eq_true q)
      rw [if_pos h]
      (repeat (refine And.intro (by omega) ?_))
      exact ih (fun q hq => by rcases Nat.lt_or_ge q k with h1 | h1; exact hg q h1; rw [show q = k by omega]; exact fun h => absurd h e1)
theorem bits_lt {n m : Nat} (h : n ≤ 12) (hm : m < 2 ^ n) : m < 4096 := Nat.lt_of_lt_of_le hm (Nat.pow_le_pow_right (by decide) h : 2 ^ n ≤ 2 ^ 12)
theorem q_bits {n : Nat} (hn : n < 4096) : CC d MO_bits [vi n] H Q = Q (vi (pop n)) H := by
  refine CC_dt fun Q hQ => ?_
  simp only [en_MO_bits, e_MO_bits_0, k_MO_bits_0, rr, sh, Nat.reduceLT, Nat.reduceMul, Int.reduceToNat, Int.reduceGT, Int.reduceGE, Int.reduceNe, true_and, and_true, true_or, or_true, false_or, or_false, and_self, or_self, if_true, if_false, reduceIte, not_true_eq_false, not_false_eq_true, Int.reduceEq, Int.reduceNe, Int.reduceLT, Int.reduceLE, Int.reduceAdd, Int.reduceSub, Int.reduceMul, Int.reduceNeg, Nat.reduceAdd, Nat.reduceLeDiff, Nat.reduceEqDiff, ne_eq, List.length_cons, List.length_nil, Nat.reduceSub, ite10_0, ite10_1, ite10_01, Classical.not_not]
  (repeat (refine And.intro (by omega) ?_))
  have key : ∀ m : Nat, ∀ s : Nat, s ≤ m → s < 4096 → R d MO_bits (blk MO_bits 1) [vi n, vi (pop n - pop s), vi s] [] H Q := by
    intro m
    induction m with
    | zero =>
      intro s hs _
      have : s = 0 := by omega
      subst this
      rw [e_MO_bits_1]
      simp only [k_MO_bits_1, en_MO_bits, e_MO_bits_0, k_MO_bits_0, e_MO_bits_2, k_MO_bits_2, rr, sh, Nat.reduceLT, Nat.reduceMul, Int.reduceToNat, Int.reduceGT, Int.reduceGE, Int.reduceNe, true_and, and_true, true_or, or_true, false_or, or_false, and_self, or_self, if_true, if_false, reduceIte, not_true_eq_false, not_false_eq_true, Int.reduceEq, Int.reduceNe, Int.reduceLT, Int.reduceLE, Int.reduceAdd, Int.reduceSub, Int.reduceMul, Int.reduceNeg, Nat.reduceAdd, Nat.reduceLeDiff, Nat.reduceEqDiff, ne_eq, List.length_cons, List.length_nil, Nat.reduceSub, ite10_0, ite10_1, ite10_01, Classical.not_not]
      rw [show pop n - pop 0 = pop n from by rw [show pop 0 = 0 from rfl, Int.sub_zero]]
      exact hQ
    | succ m ih =>
      intro s hs h4
      by_cases h0 : s = 0
      · exact ih s (by omega) h4
      · have hst := List.all_eq_true.mp pop_step s (List.mem_range.mpr h4)
        simp only [h0, Bool.or_eq_true, decide_eq_true_eq, false_or] at hst
        have c1 : ¬ (s : Int) = 0 := by omega
        have hp := pop_lt (n := n)
        have hp2 := pop_lt (n := s)
        have hp3 := pop_lt (n := s &&& (s - 1))
        have w1 : w32 (pop n - pop s + 1) = pop n - pop (s &&& (s - 1)) := by rw [w32_id (by omega) (by omega)]; omega
        have w2 : w32 ((s : Int) - 1) = ((s - 1 : Nat) : Int) := by rw [w32_id (by omega) (by omega)]; omega
        have ih := ih (s &&& (s - 1)) (by omega) (by omega)
        rw [e_MO_bits_1]
        simp only [k_MO_bits_1, en_MO_bits, e_MO_bits_0, k_MO_bits_0, e_MO_bits_2, k_MO_bits_2, rr, sh, Nat.reduceLT, Nat.reduceMul, Int.reduceToNat, Int.reduceGT, Int.reduceGE, Int.reduceNe, true_and, and_true, true_or, or_true, false_or, or_false, and_self, or_self, if_true, if_false, reduceIte, not_true_eq_false, not_false_eq_true, Int.reduceEq, Int.reduceNe, Int.reduceLT, Int.reduceLE, Int.reduceAdd, Int.reduceSub, Int.reduceMul, Int.reduceNeg, Nat.reduceAdd, Nat.reduceLeDiff, Nat.reduceEqDiff, ne_eq, List.length_cons, List.length_nil, Nat.reduceSub, ite10_0, ite10_1, ite10_01, Classical.not_not, c1, w1, w2, b_and_nat (show s < 2147483648 by omega) (show s - 1 < 2147483648 by omega)] <;> clear w1 w2
        (repeat (refine And.intro (by omega) ?_))
        exact ih
  have := key n n (Nat.le_refl n) hn
  rw [Int.sub_self] at this
  exact this
set_option maxRecDepth 20000 in
set_option maxHeartbeats 4000000 in
theorem q_isLawful (hM : Inm V) (hH : Vw V H) {b : Nat} (hb : b < 4096) : CC (d + 2) MO_isLawful [va 71, vi b] H Q = Q (vi (if lawB V b = true then 1 else 0)) H := by
  refine CC_dt fun Q hQ => ?_
  have hn := hM.boat.s
  have hp := pop_lt (n := b)
  have w1 : w32 ((nS V : Int) - pop b) = nS V - pop b := w32_id (by omega) (by omega)
  have loop : (eaV V = -1 ∨ (nS V : Int) - pop b = eaV V) → R (d + 2) MO_isLawful (blk MO_isLawful 2) [va 71, vi b, vi 0] [] H Q := by
    intro hea
    refine up_nat (P := fun k => (∀ j : Nat, j < k → V 94 (12 + j) ≠ 0 → (b.testBit j = decide (V 94 (12 + j) = 2))) → R (d + 2) MO_isLawful (blk MO_isLawful 2) [va 71, vi b, vi k] [] H Q) ?_ ?_ 0 (Nat.zero_le (nS V)) (fun q hq => absurd hq (Nat.not_lt_zero q))
    · intro hg
      rw [if_pos (show lawB V b = true from decide_eq_true ⟨hea, hg⟩)] at hQ
      rw [e_MO_isLawful_2]
      have f := hH.f hM.ptr; simp only [k_MO_isLawful_2, en_MO_isLawful, e_MO_isLawful_0, k_MO_isLawful_0, e_MO_isLawful_1, k_MO_isLawful_1, e_MO_isLawful_3, k_MO_isLawful_3, e_MO_isLawful_4, k_MO_isLawful_4, en_MO_seats, e_MO_seats_0, k_MO_seats_0, rr, sh, Nat.reduceLT, Nat.reduceMul, Int.reduceToNat, Int.reduceGT, Int.reduceGE, Int.reduceNe, true_and, and_true, true_or, or_true, false_or, or_false, and_self, or_self, if_true, if_false, reduceIte, not_true_eq_false, not_false_eq_true, Int.reduceEq, Int.reduceNe, Int.reduceLT, Int.reduceLE, Int.reduceAdd, Int.reduceSub, Int.reduceMul, Int.reduceNeg, Nat.reduceAdd, Nat.reduceLeDiff, Nat.reduceEqDiff, ne_eq, List.length_cons, List.length_nil, Nat.reduceSub, ite10_0, ite10_1, ite10_01, Classical.not_not, f, hn.1, Int.le_refl] <;> clear f
      exact hQ
    · intro k hk ih hg
      have c1 : ¬ (nS V : Int) ≤ k := by omega
      have w0 : w32 (12 + (k : Int)) = 12 + k := w32_id (by omega) (by omega)
      have hf := hM.boat.fix k hk
      have w2 : w32 (V 94 (12 + k) - 1) = V 94 (12 + k) - 1 := w32_id (by omega) (by omega)
      rw [e_MO_isLawful_2]
      have f := hH.f hM.ptr; simp only [k_MO_isLawful_2, en_MO_isLawful, e_MO_isLawful_0, k_MO_isLawful_0, e_MO_isLawful_1, k_MO_isLawful_1, e_MO_isLawful_3, k_MO_isLawful_3, e_MO_isLawful_4, k_MO_isLawful_4, en_MO_seats, e_MO_seats_0, k_MO_seats_0, en_MO_isFixed, e_MO_isFixed_0, k_MO_isFixed_0, e_MO_isFixed_1, k_MO_isFixed_1, e_MO_isFixed_2, k_MO_isFixed_2, rr, sh, Nat.reduceLT, Nat.reduceMul, Int.reduceToNat, Int.reduceGT, Int.reduceGE, Int.reduceNe, true_and, and_true, true_or, or_true, false_or, or_false, and_self, or_self, if_true, if_false, reduceIte, not_true_eq_false, not_false_eq_true, Int.reduceEq, Int.reduceNe, Int.reduceLT, Int.reduceLE, Int.reduceAdd, Int.reduceSub, Int.reduceMul, Int.reduceNeg, Nat.reduceAdd, Nat.reduceLeDiff, Nat.reduceEqDiff, ne_eq, List.length_cons, List.length_nil, Nat.reduceSub, ite10_0, ite10_1, ite10_01, Classical.not_not, f, hn.1, c1, w0, w2, b_bit (show b < 2147483648 by omega) (show k < 32 by omega), w32_s (show k < 2147483647 by omega)] <;> clear f w0 w2
      (repeat (refine And.intro (by omega) ?_))
      by_cases h0 : V 94 (12 + k) = 0
      · rw [if_pos h0]
        (repeat (refine And.intro (by omega) ?_))
        exact ih (fun q hq => by rcases Nat.lt_or_ge q k with h1 | h1; exact hg q h1; rw [show q = k by omega]; exact fun h => absurd h0 h)
      · rw [if_neg h0]
        by_cases hb1 : b.testBit k = decide (V 94 (12 + k) = 2)
        · have c2 : (if b.testBit k = true then (1 : Int) else 0) = V 94 (12 + k) - 1 := by
            rw [hb1]
            by_cases h2 : V 94 (12 + k) = 2
            · simp [h2]
            · simp [h2]; omega
          rw [c2]
          (repeat (refine And.intro (by omega) ?_))
          rw [if_pos rfl]
          (repeat (refine And.intro (by omega) ?_))
          exact ih (fun q hq => by rcases Nat.lt_or_ge q k with h1 | h1; exact hg q h1; rw [show q = k by omega]; exact fun _ => hb1)
        · have c2 : ¬ (if b.testBit k = true then (1 : Int) else 0) = V 94 (12 + k) - 1 := by
            intro h
            apply hb1
            by_cases h2 : V 94 (12 + k) = 2
            · simp [h2] at h ⊢; exact h
            · have : V 94 (12 + k) = 1 := by omega
              simp [this] at h ⊢; exact h
          (repeat (refine And.intro (by omega) ?_))
          rw [if_neg c2]
          rw [if_neg (show ¬ lawB V b = true from fun q => hb1 ((of_decide_eq_true q).2 k hk h0))] at hQ
          exact hQ
  have hea : eaV V = if V 71 46 = 0 then -1 else V 98 1 := rfl
  have f := hH.f hM.ptr; simp only [en_MO_isLawful, e_MO_isLawful_0, k_MO_isLawful_0, e_MO_isLawful_1, k_MO_isLawful_1, e_MO_isLawful_3, k_MO_isLawful_3, e_MO_isLawful_4, k_MO_isLawful_4, en_MO_each, e_MO_each_0, k_MO_each_0, e_MO_each_1, k_MO_each_1, e_MO_each_2, k_MO_each_2, en_MO_seats, e_MO_seats_0, k_MO_seats_0, rr, sh, Nat.reduceLT, Nat.reduceMul, Int.reduceToNat, Int.reduceGT, Int.reduceGE, Int.reduceNe, true_and, and_true, true_or, or_true, false_or, or_false, and_self, or_self, if_true, if_false, reduceIte, not_true_eq_false, not_false_eq_true, Int.reduceEq, Int.reduceNe, Int.reduceLT, Int.reduceLE, Int.reduceAdd, Int.reduceSub, Int.reduceMul, Int.reduceNeg, Nat.reduceAdd, Nat.reduceLeDiff, Nat.reduceEqDiff, ne_eq, List.length_cons, List.length_nil, Nat.reduceSub, ite10_0, ite10_1, ite10_01, Classical.not_not, f, hn.1, q_bits hb, w1] <;> clear f w1
  by_cases h0 : V 71 46 = 0
  · rw [if_pos h0] at hea
    simp only [h0, if_true]
    (repeat (refine And.intro (by omega) ?_))
    exact loop (Or.inl hea)
  · rw [if_neg h0] at hea
    simp only [h0, if_false]
    (repeat (refine And.intro (by omega) ?_))
    rw [← hea]
    by_cases h1 : eaV V = -1
    · rw [if_pos h1]
      (repeat (refine And.intro (by omega) ?_))
      exact loop (Or.inl h1)
    · rw [if_neg h1]
      (repeat (refine And.intro (by omega) ?_))
      by_cases h2 : (nS V : Int) - pop b = eaV V
      · rw [if_pos h2]
        (repeat (refine And.intro (by omega) ?_))
        exact loop (Or.inr h2)
      · rw [if_neg h2]
        rw [if_neg (show ¬ lawB V b = true from fun q => by rcases (of_decide_eq_true q).1 with h | h; exact h1 h; exact h2 h)] at hQ
        exact hQ
end SW
