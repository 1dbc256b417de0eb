/-! octet; stroke -/
section OC
variable {d : Nat} {V H : Hp} {Q : AV → Hp → Prop}
set_option maxRecDepth 20000 in
theorem q_octetC (hP : Ptr V) (hG : ImgR V) (hH : Vw V H) {k : Int} : CC d EO_octet [va 1, vi k] H Q = Q (vi (octS V k)) H := by
  obtain ⟨g1, g2, g3⟩ := hG
  unfold octS
  by_cases c : 0 ≤ k ∧ k < V 71 98
  · obtain ⟨n, rfl⟩ := Int.eq_ofNat_of_zero_le c.1
    have e := (g3 n c.2).2
    have c1 : ¬ (n : Int) < 0 := by clear e g2 g3; omega
    have c2 : ¬ V 71 98 ≤ n := by clear e g2 g3; omega
    have j1 : 0 ≤ (n : Int) ∧ (n : Int) < 35 := by clear e g2 g3; omega
    have f := hH.f hP
    simp only [en_EO_octet, e_EO_octet_0, k_EO_octet_0, e_EO_octet_1, k_EO_octet_1, e_EO_octet_2, k_EO_octet_2, rr, sh, Nat.reduceLT, Nat.reduceMul, Int.reduceToNat, Int.reduceGT, Int.reduceGE, Int.reduceNe, true_and, and_true, true_or, or_true, false_or, or_false, and_self, or_self, if_true, if_false, reduceIte, not_true_eq_false, not_false_eq_true, Int.reduceEq, Int.reduceNe, Int.reduceLT, Int.reduceLE, Int.reduceAdd, Int.reduceSub, Int.reduceMul, Int.reduceNeg, Nat.reduceAdd, Nat.reduceLeDiff, Nat.reduceEqDiff, ne_eq, List.length_cons, List.length_nil, Nat.reduceSub, f, g2, c1, c2, j1, b_and255, c, e]
  · by_cases c1 : k < 0
    · have f := hH.f hP
      simp only [en_EO_octet, e_EO_octet_0, k_EO_octet_0, e_EO_octet_1, k_EO_octet_1, e_EO_octet_2, k_EO_octet_2, rr, sh, Nat.reduceLT, Nat.reduceMul, Int.reduceToNat, Int.reduceGT, Int.reduceGE, Int.reduceNe, true_and, and_true, true_or, or_true, false_or, or_false, and_self, or_self, if_true, if_false, reduceIte, not_true_eq_false, not_false_eq_true, Int.reduceEq, Int.reduceNe, Int.reduceLT, Int.reduceLE, Int.reduceAdd, Int.reduceSub, Int.reduceMul, Int.reduceNeg, Nat.reduceAdd, Nat.reduceLeDiff, Nat.reduceEqDiff, ne_eq, List.length_cons, List.length_nil, Nat.reduceSub, f, c1, c]
    · have c2 : V 71 98 ≤ k := by clear g2 g3; omega
      have f := hH.f hP
      simp only [en_EO_octet, e_EO_octet_0, k_EO_octet_0, e_EO_octet_1, k_EO_octet_1, e_EO_octet_2, k_EO_octet_2, rr, sh, Nat.reduceLT, Nat.reduceMul, Int.reduceToNat, Int.reduceGT, Int.reduceGE, Int.reduceNe, true_and, and_true, true_or, or_true, false_or, or_false, and_self, or_self, if_true, if_false, reduceIte, not_true_eq_false, not_false_eq_true, Int.reduceEq, Int.reduceNe, Int.reduceLT, Int.reduceLE, Int.reduceAdd, Int.reduceSub, Int.reduceMul, Int.reduceNeg, Nat.reduceAdd, Nat.reduceLeDiff, Nat.reduceEqDiff, ne_eq, List.length_cons, List.length_nil, Nat.reduceSub, f, g2, c1, c2, c]
set_option maxRecDepth 20000 in
theorem q_octetM (hP : Ptr V) (hG : ImgR V) (hH : Vw V H) {k : Int} : CC d MO_octet [va 71, vi k] H Q = Q (vi (octS V k)) H := by
  obtain ⟨g1, g2, g3⟩ := hG
  unfold octS
  by_cases c : 0 ≤ k ∧ k < V 71 98
  · have c1 : ¬ k < 0 := by clear g2 g3; omega
    have c2 : ¬ V 71 98 ≤ k := by clear g2 g3; omega
    have j1 : 0 ≤ k ∧ k < 36 := by clear g2 g3; omega
    have f := hH.f hP
    simp only [en_MO_octet, e_MO_octet_0, k_MO_octet_0, e_MO_octet_1, k_MO_octet_1, e_MO_octet_2, k_MO_octet_2, rr, sh, Nat.reduceLT, Nat.reduceMul, Int.reduceToNat, Int.reduceGT, Int.reduceGE, Int.reduceNe, true_and, and_true, true_or, or_true, false_or, or_false, and_self, or_self, if_true, if_false, reduceIte, not_true_eq_false, not_false_eq_true, Int.reduceEq, Int.reduceNe, Int.reduceLT, Int.reduceLE, Int.reduceAdd, Int.reduceSub, Int.reduceMul, Int.reduceNeg, Nat.reduceAdd, Nat.reduceLeDiff, Nat.reduceEqDiff, ne_eq, List.length_cons, List.length_nil, Nat.reduceSub, f, c1, c2, j1, c]
  · by_cases c1 : k < 0
    · have f := hH.f hP
      simp only [en_MO_octet, e_MO_octet_0, k_MO_octet_0, e_MO_octet_1, k_MO_octet_1, e_MO_octet_2, k_MO_octet_2, rr, sh, Nat.reduceLT, Nat.reduceMul, Int.reduceToNat, Int.reduceGT, Int.reduceGE, Int.reduceNe, true_and, and_true, true_or, or_true, false_or, or_false, and_self, or_self, if_true, if_false, reduceIte, not_true_eq_false, not_false_eq_true, Int.reduceEq, Int.reduceNe, Int.reduceLT, Int.reduceLE, Int.reduceAdd, Int.reduceSub, Int.reduceMul, Int.reduceNeg, Nat.reduceAdd, Nat.reduceLeDiff, Nat.reduceEqDiff, ne_eq, List.length_cons, List.length_nil, Nat.reduceSub, f, c1, c]
    · have c2 : V 71 98 ≤ k := by clear g2 g3; omega
      have f := hH.f hP
      simp only [en_MO_octet, e_MO_octet_0, k_MO_octet_0, e_MO_octet_1, k_MO_octet_1, e_MO_octet_2, k_MO_octet_2, rr, sh, Nat.reduceLT, Nat.reduceMul, Int.reduceToNat, Int.reduceGT, Int.reduceGE, Int.reduceNe, true_and, and_true, true_or, or_true, false_or, or_false, and_self, or_self, if_true, if_false, reduceIte, not_true_eq_false, not_false_eq_true, Int.reduceEq, Int.reduceNe, Int.reduceLT, Int.reduceLE, Int.reduceAdd, Int.reduceSub, Int.reduceMul, Int.reduceNeg, Nat.reduceAdd, Nat.reduceLeDiff, Nat.reduceEqDiff, ne_eq, List.length_cons, List.length_nil, Nat.reduceSub, f, c1, c2, c]
set_option maxRecDepth 20000 in
theorem q_strokeC (hI : Inq V) (hA : ActR V) (hH : Vw V H) {n : Int} : CC (d + 3) EO_stroke [va 1, vi n] H Q = if (1 ≤ n ∧ n ≤ 200) ∧ V 71 47 + n ≤ 9999 then Q (vi (V 71 47 + n)) (hs (ntH H 2 n (-1)) 4 3 (V 71 47 + n)) else Q (vi (-1)) (hs H 70 2 (w32 (V 70 2 + 1))) := by
  obtain ⟨hm, a1, a2, c, hc, hc30, -⟩ := hA
  have hm2 : 0 ≤ V 4 10 ∧ V 4 10 < 30 := by rw [a1]; exact hm
  have hc2 : 0 ≤ V 4 11 ∧ V 4 11 ≤ 30 := by rw [a2, hc]; omega
  have ht := hI.crew.stroke
  have hst := hI.cc.stroke
  have e43 : ∀ x : Int, ntH H 2 n (-1) 4 3 = V 71 47 := fun _ => by
    unfold ntH
    rw [hs_app, if_neg (by decide), hs_app, if_neg (by decide), hs_ne (by decide), hs_ne (by decide), hs_ne (by decide), hs_ne (by decide)]
    exact (hH 4 3 rfl).trans hst
  have e43 := e43 0
  by_cases h : (1 ≤ n ∧ n ≤ 200) ∧ V 71 47 + n ≤ 9999
  · have w1 : w32 (V 71 47 + n) = V 71 47 + n := w32_id (by clear e43; omega) (by clear e43; omega)
    have b1 : hs (ntH H 2 n (-1)) 4 3 (V 71 47 + n) 1 1 = 4 := by
      rw [hs_ne (by decide)]
      unfold ntH
      rw [hs_ne (by decide), hs_ne (by decide), hs_ne (by decide), hs_ne (by decide), hs_ne (by decide), hs_ne (by decide)]
      exact (hH 1 1 rfl).trans (hI.ptr (1, 1, 4) (by decide +kernel))
    have f := hH.f hI.ptr; have g := pl_f hH hI.pp hI.ptr; simp only [en_EO_stroke, e_EO_stroke_0, k_EO_stroke_0, e_EO_stroke_1, k_EO_stroke_1, en_CW_passBy, e_CW_passBy_0, k_CW_passBy_0, rr, sh, Nat.reduceLT, Nat.reduceMul, Int.reduceToNat, Int.reduceGT, Int.reduceGE, Int.reduceNe, true_and, and_true, true_or, or_true, false_or, or_false, and_self, or_self, if_true, if_false, reduceIte, not_true_eq_false, not_false_eq_true, Int.reduceEq, Int.reduceNe, Int.reduceLT, Int.reduceLE, Int.reduceAdd, Int.reduceSub, Int.reduceMul, Int.reduceNeg, Nat.reduceAdd, Nat.reduceLeDiff, Nat.reduceEqDiff, ne_eq, List.length_cons, List.length_nil, Nat.reduceSub, ite10_0, ite10_1, ite10_01, Classical.not_not, f, g, q_canGoBy hI hH, h, q_noteAct hI.ptr hH hm2 hc2, e43, w1, b1, hs_same] <;> clear f g e43 w1
  · have f := hH.f hI.ptr; have g := pl_f hH hI.pp hI.ptr; simp only [en_EO_stroke, e_EO_stroke_0, k_EO_stroke_0, e_EO_stroke_1, k_EO_stroke_1, en_CW_passBy, e_CW_passBy_0, k_CW_passBy_0, rr, sh, Nat.reduceLT, Nat.reduceMul, Int.reduceToNat, Int.reduceGT, Int.reduceGE, Int.reduceNe, true_and, and_true, true_or, or_true, false_or, or_false, and_self, or_self, if_true, if_false, reduceIte, not_true_eq_false, not_false_eq_true, Int.reduceEq, Int.reduceNe, Int.reduceLT, Int.reduceLE, Int.reduceAdd, Int.reduceSub, Int.reduceMul, Int.reduceNeg, Nat.reduceAdd, Nat.reduceLeDiff, Nat.reduceEqDiff, ne_eq, List.length_cons, List.length_nil, Nat.reduceSub, ite10_0, ite10_1, ite10_01, Classical.not_not, f, g, q_canGoBy hI hH, h, q_refuse hI.ptr hH (show (0 : Int) ≤ 2 ∧ (2 : Int) < 6 by decide)] <;> clear f g
end OC
