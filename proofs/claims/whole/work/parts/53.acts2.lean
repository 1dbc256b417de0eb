/-! acts: what else stays; stroke -/
def actS (a b : Int) : Bool := if a = 20 then true else if a = 21 then true else if a = 22 then true else if a = 23 then true else if a = 18 then true else if a = 19 then true else if a = 107 then true else if a = 108 then true else if a = 109 then true else if a = 110 then true else if a = 111 then true else if a = 4 then (decide (b = 3) || decide (b = 4) || decide (b = 5) || decide (b = 10) || decide (b = 11)) else if a = 71 then (decide (b = 47) || decide (b = 48) || decide (b = 49) || decide (b = 55) || decide (b = 56) || decide (b = 57)) else false
theorem Inv0.act {V H : Hp} (h : Inv0 V) (hS : Fx actS V H) (hq : Inq H) (ha : ActR H) : Inv0 H := by
  have hpp := h.1.pp
  obtain ⟨-, h2, h3, h4, h5, -, h7, h8, h9, h10⟩ := h
  have hc : ∀ a : Int, (∀ b, actS a b = false) → H a = V a := fun a q => hS.cell a q
  have ep : H (V 4 0 + 4) = V (V 4 0 + 4) := by rcases hpp with e | e <;> rw [e] <;> exact hc _ (fun _ => rfl)
  have c1 : H 1 = V 1 := hS.cell 1 (fun _ => rfl)
  have c2 : H 2 = V 2 := hS.cell 2 (fun _ => rfl)
  have c3 : H 3 = V 3 := hS.cell 3 (fun _ => rfl)
  have c24 : H 24 = V 24 := hS.cell 24 (fun _ => rfl)
  have c66 : H 66 = V 66 := hS.cell 66 (fun _ => rfl)
  have c67 : H 67 = V 67 := hS.cell 67 (fun _ => rfl)
  have c68 : H 68 = V 68 := hS.cell 68 (fun _ => rfl)
  have c70 : H 70 = V 70 := hS.cell 70 (fun _ => rfl)
  have c72 : H 72 = V 72 := hS.cell 72 (fun _ => rfl)
  have c73 : H 73 = V 73 := hS.cell 73 (fun _ => rfl)
  have c139 : H 139 = V 139 := hS.cell 139 (fun _ => rfl)
  have d1 : H 71 1 = V 71 1 := hS 71 1 rfl
  have d7 : H 71 7 = V 71 7 := hS 71 7 rfl
  have d8 : H 71 8 = V 71 8 := hS 71 8 rfl
  have d98 : H 71 98 = V 71 98 := hS 71 98 rfl
  have d13 : H 4 13 = V 4 13 := hS 4 13 rfl
  refine ⟨hq, ?_, ?_, ?_, ?_, ha, ?_, ?_, h9.cg (hc 91 (fun _ => rfl)) (hc 95 (fun _ => rfl)) (hS 4 0 rfl) ep, h10.cg (hS 58 7 rfl) (hS 58 8 rfl) (hc 64 (fun _ => rfl)) (hc 65 (fun _ => rfl)) (hc 91 (fun _ => rfl)) (hc 92 (fun _ => rfl)) (hc 93 (fun _ => rfl)) (hc 99 (fun _ => rfl)) (hc 102 (fun _ => rfl)) (hc 103 (fun _ => rfl)) (hc 104 (fun _ => rfl))⟩
  · unfold TapeR at h2 ⊢; simp only [c2, c3, c72, d1]; exact h2
  · unfold FltR at h3 ⊢; simp only [c1, d7, d8]; exact h3
  · unfold RefR at h4 ⊢; simp only [c70, c73]; exact h4
  · unfold ImgR at h5 ⊢; simp only [c24, c139, d98, d13]; exact h5
  · unfold HvOk at h7 ⊢; simp only [c66, c67, c68]; exact h7
  · have hs : wdL.all (fun q => !actS q.1 q.2.1) = true := by decide +kernel
    intro q hq
    have := List.all_eq_true.mp hs q hq
    rw [hS q.1 q.2.1 (by simpa using this)]
    exact h8 q hq
/-- a note and a snapshot make the ring's step -/
theorem ring_of {V H1 H2 : Hp} {k a b : Int} (hA : ActR V) (hh : V 4 4 = V 71 48) (h1 : Fx actS (ntH V k a b) H1) (n4 : H1 4 10 = mxt (V 4 10)) (n5 : H1 4 11 = min 30 (V 4 11 + 1)) (n20 : H1 20 = ntH V k a b 20) (n21 : H1 21 = ntH V k a b 21) (n22 : H1 22 = ntH V k a b 22) (n23 : H1 23 = ntH V k a b 23) (hm : ∀ j, 47 ≤ j → j ≤ 57 → H1 71 j = V 71 j) (h107 : H1 107 = V 107) (h108 : H1 108 = V 108) (h109 : H1 109 = V 109) (h110 : H1 110 = V 110) (h111 : H1 111 = V 111)
    (hK : KeepR H1 H2) : RingR V H2 k a b := by
  obtain ⟨-, e1, e2, -⟩ := hA
  obtain ⟨k1, k2, k3, k4, k5, k6, k7⟩ := hK
  have f1 : H1 91 = V 91 := (h1.cell 91 (fun _ => rfl)).trans (by unfold ntH; rw [hs_ne (by decide), hs_ne (by decide), hs_ne (by decide), hs_ne (by decide), hs_ne (by decide), hs_ne (by decide)])
  have f2 : H1 94 = V 94 := (h1.cell 94 (fun _ => rfl)).trans (by unfold ntH; rw [hs_ne (by decide), hs_ne (by decide), hs_ne (by decide), hs_ne (by decide), hs_ne (by decide), hs_ne (by decide)])
  have m47 := hm 47 (by decide) (by decide)
  have m48 := hm 48 (by decide) (by decide)
  have m49 := hm 49 (by decide) (by decide)
  have m55 := hm 55 (by decide) (by decide)
  have m56 := hm 56 (by decide) (by decide)
  rw [m56] at k2 k4 k5 k6 k7
  rw [m55] at k3
  rw [m47, h108] at k4
  rw [m48, h109] at k5
  rw [m49, h110] at k6
  rw [h107, h111] at k7
  refine ⟨k2, k3, ?_, ?_, ?_, ?_, k4, k5, k6, k7, fun j => ?_, fun j => ?_, fun j => ?_, fun j => ?_⟩
  · rw [k1 4 10 rfl, n4, e1]
  · rw [k1 4 11 rfl, n5, e2]
  · rw [k1.cell 91 (fun _ => rfl), f1]
  · rw [k1.cell 94 (fun _ => rfl), f2]
  · rw [k1 20 j rfl, n20]
    unfold ntH
    rw [hs_ne (by decide), hs_ne (by decide), hs_ne (by decide), hs_ne (by decide), hs_ne (by decide), hs_app, e1]
    by_cases q : j = V 71 56
    · rw [if_pos ⟨rfl, q⟩, if_pos q]
    · rw [if_neg (fun z => q z.2), if_neg q]
  · rw [k1 21 j rfl, n21]
    unfold ntH
    rw [hs_ne (by decide), hs_ne (by decide), hs_ne (by decide), hs_ne (by decide), hs_app, hs_ne (by decide), e1]
    by_cases q : j = V 71 56
    · rw [if_pos ⟨rfl, q⟩, if_pos q]
    · rw [if_neg (fun z => q z.2), if_neg q]
  · rw [k1 22 j rfl, n22]
    unfold ntH
    rw [hs_ne (by decide), hs_ne (by decide), hs_ne (by decide), hs_app, hs_ne (by decide), hs_ne (by decide), e1]
    by_cases q : j = V 71 56
    · rw [if_pos ⟨rfl, q⟩, if_pos q]
    · rw [if_neg (fun z => q z.2), if_neg q]
  · rw [k1 23 j rfl, n23]
    unfold ntH
    rw [hs_ne (by decide), hs_ne (by decide), hs_app, hs_ne (by decide), hs_ne (by decide), hs_ne (by decide), e1, hh]
    by_cases q : j = V 71 56
    · rw [if_pos ⟨rfl, q⟩, if_pos q]
    · rw [if_neg (fun z => q z.2), if_neg q]
section AC
variable {d : Nat} {V H : Hp} {Q : AV → Hp → Prop}
def canGo (V : Hp) (n : Int) : Prop := (1 ≤ n ∧ n ≤ 200) ∧ V 71 47 + n ≤ 9999
set_option maxRecDepth 20000 in
theorem q_canGoBy (hI : Inq V) (hH : Vw V H) {n : Int} : CC d EO_canGoBy [va 1, vi n] H Q = if (1 ≤ n ∧ n ≤ 200) ∧ V 71 47 + n ≤ 9999 then Q (vi 1) H else Q (vi 0) H := by
  have ht := hI.crew.stroke
  have hst := hI.cc.stroke
  by_cases c1 : n < 1
  · rw [if_neg (by omega)]
    have f := hH.f hI.ptr; have g := pl_f hH hI.pp hI.ptr; simp only [en_EO_canGoBy, e_EO_canGoBy_0, k_EO_canGoBy_0, e_EO_canGoBy_1, k_EO_canGoBy_1, e_EO_canGoBy_2, k_EO_canGoBy_2, rr, sh, Nat.reduceLT, Nat.reduceMul, Int.reduceToNat, Int.reduceGT, Int.reduceGE, Int.reduceNe, true_and, and_true, true_or, or_true, false_or, or_false, and_self, or_self, if_true, if_false, reduceIte, not_true_eq_false, not_false_eq_true, Int.reduceEq, Int.reduceNe, Int.reduceLT, Int.reduceLE, Int.reduceAdd, Int.reduceSub, Int.reduceMul, Int.reduceNeg, Nat.reduceAdd, Nat.reduceLeDiff, Nat.reduceEqDiff, ne_eq, List.length_cons, List.length_nil, Nat.reduceSub, ite10_0, ite10_1, ite10_01, Classical.not_not, f, g, c1] <;> clear f g
  · by_cases c2 : 200 < n
    · rw [if_neg (by omega)]
      have f := hH.f hI.ptr; have g := pl_f hH hI.pp hI.ptr; simp only [en_EO_canGoBy, e_EO_canGoBy_0, k_EO_canGoBy_0, e_EO_canGoBy_1, k_EO_canGoBy_1, e_EO_canGoBy_2, k_EO_canGoBy_2, rr, sh, Nat.reduceLT, Nat.reduceMul, Int.reduceToNat, Int.reduceGT, Int.reduceGE, Int.reduceNe, true_and, and_true, true_or, or_true, false_or, or_false, and_self, or_self, if_true, if_false, reduceIte, not_true_eq_false, not_false_eq_true, Int.reduceEq, Int.reduceNe, Int.reduceLT, Int.reduceLE, Int.reduceAdd, Int.reduceSub, Int.reduceMul, Int.reduceNeg, Nat.reduceAdd, Nat.reduceLeDiff, Nat.reduceEqDiff, ne_eq, List.length_cons, List.length_nil, Nat.reduceSub, ite10_0, ite10_1, ite10_01, Classical.not_not, f, g, c1, c2] <;> clear f g
    · have w1 : w32 (V 71 47 + n) = V 71 47 + n := w32_id (by omega) (by omega)
      by_cases c3 : 9999 < V 71 47 + n
      · rw [if_neg (by omega)]
        have f := hH.f hI.ptr; have g := pl_f hH hI.pp hI.ptr; simp only [en_EO_canGoBy, e_EO_canGoBy_0, k_EO_canGoBy_0, e_EO_canGoBy_1, k_EO_canGoBy_1, e_EO_canGoBy_2, k_EO_canGoBy_2, rr, sh, Nat.reduceLT, Nat.reduceMul, Int.reduceToNat, Int.reduceGT, Int.reduceGE, Int.reduceNe, true_and, and_true, true_or, or_true, false_or, or_false, and_self, or_self, if_true, if_false, reduceIte, not_true_eq_false, not_false_eq_true, Int.reduceEq, Int.reduceNe, Int.reduceLT, Int.reduceLE, Int.reduceAdd, Int.reduceSub, Int.reduceMul, Int.reduceNeg, Nat.reduceAdd, Nat.reduceLeDiff, Nat.reduceEqDiff, ne_eq, List.length_cons, List.length_nil, Nat.reduceSub, ite10_0, ite10_1, ite10_01, Classical.not_not, f, g, c1, c2, hst, w1, c3] <;> clear f g w1
      · rw [if_pos (by omega)]
        have f := hH.f hI.ptr; have g := pl_f hH hI.pp hI.ptr; simp only [en_EO_canGoBy, e_EO_canGoBy_0, k_EO_canGoBy_0, e_EO_canGoBy_1, k_EO_canGoBy_1, e_EO_canGoBy_2, k_EO_canGoBy_2, rr, sh, Nat.reduceLT, Nat.reduceMul, Int.reduceToNat, Int.reduceGT, Int.reduceGE, Int.reduceNe, true_and, and_true, true_or, or_true, false_or, or_false, and_self, or_self, if_true, if_false, reduceIte, not_true_eq_false, not_false_eq_true, Int.reduceEq, Int.reduceNe, Int.reduceLT, Int.reduceLE, Int.reduceAdd, Int.reduceSub, Int.reduceMul, Int.reduceNeg, Nat.reduceAdd, Nat.reduceLeDiff, Nat.reduceEqDiff, ne_eq, List.length_cons, List.length_nil, Nat.reduceSub, ite10_0, ite10_1, ite10_01, Classical.not_not, f, g, c1, c2, hst, w1, c3] <;> clear f g w1
set_option maxRecDepth 20000 in
theorem q_canGoM (hM : Inm V) (hH : Vw V H) {n : Int} : CC (d + 1) MO_canGo [va 71, vi n] H Q = if (1 ≤ n ∧ n ≤ 200) ∧ V 71 47 + n ≤ 9999 then Q (vi 1) H else Q (vi 0) H := by
  have ht := hM.crew.stroke
  by_cases c1 : 1 ≤ n ∧ n ≤ 200
  · have w1 : w32 (V 71 47 + n) = V 71 47 + n := w32_id (by omega) (by omega)
    by_cases c3 : 9999 < V 71 47 + n
    · rw [if_neg (by omega)]
      have f := hH.f hM.ptr; simp only [en_MO_canGo, e_MO_canGo_0, k_MO_canGo_0, e_MO_canGo_1, k_MO_canGo_1, e_MO_canGo_2, k_MO_canGo_2, rr, sh, Nat.reduceLT, Nat.reduceMul, Int.reduceToNat, Int.reduceGT, Int.reduceGE, Int.reduceNe, true_and, and_true, true_or, or_true, false_or, or_false, and_self, or_self, if_true, if_false, reduceIte, not_true_eq_false, not_false_eq_true, Int.reduceEq, Int.reduceNe, Int.reduceLT, Int.reduceLE, Int.reduceAdd, Int.reduceSub, Int.reduceMul, Int.reduceNeg, Nat.reduceAdd, Nat.reduceLeDiff, Nat.reduceEqDiff, ne_eq, List.length_cons, List.length_nil, Nat.reduceSub, ite10_0, ite10_1, ite10_01, Classical.not_not, f, q_isIn, c1, w1, c3] <;> clear f w1
    · rw [if_pos (by omega)]
      have f := hH.f hM.ptr; simp only [en_MO_canGo, e_MO_canGo_0, k_MO_canGo_0, e_MO_canGo_1, k_MO_canGo_1, e_MO_canGo_2, k_MO_canGo_2, rr, sh, Nat.reduceLT, Nat.reduceMul, Int.reduceToNat, Int.reduceGT, Int.reduceGE, Int.reduceNe, true_and, and_true, true_or, or_true, false_or, or_false, and_self, or_self, if_true, if_false, reduceIte, not_true_eq_false, not_false_eq_true, Int.reduceEq, Int.reduceNe, Int.reduceLT, Int.reduceLE, Int.reduceAdd, Int.reduceSub, Int.reduceMul, Int.reduceNeg, Nat.reduceAdd, Nat.reduceLeDiff, Nat.reduceEqDiff, ne_eq, List.length_cons, List.length_nil, Nat.reduceSub, ite10_0, ite10_1, ite10_01, Classical.not_not, f, q_isIn, c1, w1, c3] <;> clear f w1
  · rw [if_neg (fun q => c1 q.1)]
    have f := hH.f hM.ptr; simp only [en_MO_canGo, e_MO_canGo_0, k_MO_canGo_0, e_MO_canGo_1, k_MO_canGo_1, e_MO_canGo_2, k_MO_canGo_2, rr, sh, Nat.reduceLT, Nat.reduceMul, Int.reduceToNat, Int.reduceGT, Int.reduceGE, Int.reduceNe, true_and, and_true, true_or, or_true, false_or, or_false, and_self, or_self, if_true, if_false, reduceIte, not_true_eq_false, not_false_eq_true, Int.reduceEq, Int.reduceNe, Int.reduceLT, Int.reduceLE, Int.reduceAdd, Int.reduceSub, Int.reduceMul, Int.reduceNeg, Nat.reduceAdd, Nat.reduceLeDiff, Nat.reduceEqDiff, ne_eq, List.length_cons, List.length_nil, Nat.reduceSub, ite10_0, ite10_1, ite10_01, Classical.not_not, f, q_isIn, c1] <;> clear f
end AC
