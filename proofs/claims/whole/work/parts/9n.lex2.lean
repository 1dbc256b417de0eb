/-! THE READING: behind blanks, a word's end -/
theorem blB_no {V : Hp} {a : Nat} (h : tpN V ≤ a) : blB (bz V a) = false := by rw [bz_past h]; rfl
theorem skE_go {V : Hp} {a : Nat} (h : a < tpN V) (hp : blB (bz V a) = true) : skE V a = skE V (a + 1) := runE_go h hp
theorem skE_no {V : Hp} {a : Nat} (hp : blB (bz V a) = false) : skE V a = a := runE_no hp
theorem weE_go {V : Hp} {a : Nat} (h : a < tpN V) (hp : ltB (bz V a) = true) : weE V a = weE V (a + 1) := runE_go h hp
theorem weE_no {V : Hp} {a : Nat} (hp : ltB (bz V a) = false) : weE V a = a := runE_no hp
/-- the reference's tape as it stood, its end where the tape's was -/
def TmV (V H : Hp) : Prop := H 71 0 = 72 ∧ H 71 3 = tpN V ∧ H 72 = V 72
theorem TmV.hs {V H : Hp} {c j v : Int} (h : TmV V H) (hc : c ≠ 72 ∧ ¬ (c = 71 ∧ (j = 0 ∨ j = 3))) : TmV V (hs H c j v) :=
  ⟨(hs2 (fun z => hc.2 ⟨z.1.symm, Or.inl z.2.symm⟩)).trans h.1, (hs2 (fun z => hc.2 ⟨z.1.symm, Or.inr z.2.symm⟩)).trans h.2.1, (hs_ne (fun z => hc.1 z.symm)).trans h.2.2⟩
section LY
variable {d : Nat} {V H : Hp} {Q : AV → Hp → Prop}
set_option maxRecDepth 20000 in
theorem q_next (hT : TapeR V) (h : TpV V H) {a : Nat} (ha : H 2 2 = a) (hn : a ≤ tpN V) : CC (d + 1) TP_next [va 2] H Q = Q (vi (bz V (skE V a))) (hs H 2 2 (skE V a)) := by
  refine CC_dt fun Q hQ => ?_
  have n16 := tpN_le hT
  have key : R (d + 1) TP_next (blk TP_next 0) [va 2] [] (hs H 2 2 a) Q := by
    refine up_nat (P := fun k => skE V k = skE V a → R (d + 1) TP_next (blk TP_next 0) [va 2] [] (hs H 2 2 k) Q) (n := tpN V) ?_ ?_ a hn rfl
    · intro hs1
      have hv : TpV V (hs H 2 2 (tpN V : Nat)) := h.hs (by decide)
      have e : skE V (tpN V) = tpN V := skE_no (blB_no (Nat.le_refl _))
      have g1 := hv.2.1
      rw [← hs1, e] at hQ
      rw [e_TP_next_0]
      simp only [k_TP_next_0, e_TP_next_1, k_TP_next_1, rr, sh, Nat.reduceLT, Nat.reduceMul, Int.reduceToNat, Int.reduceGT, Int.reduceGE, Int.reduceNe, true_and, and_true, true_or, or_true, false_or, or_false, and_self, or_self, if_true, if_false, reduceIte, not_true_eq_false, not_false_eq_true, Int.reduceEq, Int.reduceNe, Int.reduceLT, Int.reduceLE, Int.reduceAdd, Int.reduceSub, Int.reduceMul, Int.reduceNeg, Nat.reduceAdd, Nat.reduceLeDiff, Nat.reduceEqDiff, ne_eq, List.length_cons, List.length_nil, Nat.reduceSub, hs_same, g1, tpN_eq hT, Int.le_refl, q_byteZ hT hv]
      exact hQ
    · intro k hk ih hs1
      have hv : TpV V (hs H 2 2 k) := h.hs (by decide)
      have g1 := hv.2.1
      have c1 : ¬ (tpN V : Int) ≤ k := by omega
      have kw := w32_s (n := k) (by omega)
      rw [e_TP_next_0]
      by_cases c : blB (bz V k) = true
      · have ih' := ih (by rw [← skE_go hk c]; exact hs1)
        have hh : hs (hs H 2 2 k) 2 2 ((k + 1 : Nat) : Int) = hs H 2 2 ((k + 1 : Nat) : Int) := by
          funext x y
          rw [hs_app, hs_app, hs_app]
          split <;> rfl
        simp only [k_TP_next_0, rr, sh, Nat.reduceLT, Nat.reduceMul, Int.reduceToNat, Int.reduceGT, Int.reduceGE, Int.reduceNe, true_and, and_true, true_or, or_true, false_or, or_false, and_self, or_self, if_true, if_false, reduceIte, not_true_eq_false, not_false_eq_true, Int.reduceEq, Int.reduceNe, Int.reduceLT, Int.reduceLE, Int.reduceAdd, Int.reduceSub, Int.reduceMul, Int.reduceNeg, Nat.reduceAdd, Nat.reduceLeDiff, Nat.reduceEqDiff, ne_eq, List.length_cons, List.length_nil, Nat.reduceSub, hs_same, g1, tpN_eq hT, c1, q_byteZ hT hv, q_isBlank, c, bI, kw, hh]
        exact ih'
      · have c' : blB (bz V k) = false := by simpa using c
        rw [← hs1, skE_no c'] at hQ
        simp only [k_TP_next_0, e_TP_next_1, k_TP_next_1, rr, sh, Nat.reduceLT, Nat.reduceMul, Int.reduceToNat, Int.reduceGT, Int.reduceGE, Int.reduceNe, true_and, and_true, true_or, or_true, false_or, or_false, and_self, or_self, if_true, if_false, reduceIte, not_true_eq_false, not_false_eq_true, Int.reduceEq, Int.reduceNe, Int.reduceLT, Int.reduceLE, Int.reduceAdd, Int.reduceSub, Int.reduceMul, Int.reduceNeg, Nat.reduceAdd, Nat.reduceLeDiff, Nat.reduceEqDiff, ne_eq, List.length_cons, List.length_nil, Nat.reduceSub, hs_same, g1, tpN_eq hT, c1, q_byteZ hT hv, q_isBlank, c', bI]
        exact hQ
  rw [← ha, hs_self, e_TP_next_0] at key
  simp only [en_TP_next]
  exact key
set_option maxRecDepth 20000 in
theorem q_wordEnd (hT : TapeR V) (h : TpV V H) {a : Nat} (ha : H 2 2 = a) (hn : a ≤ tpN V) : CC (d + 1) TP_wordEnd [va 2] H Q = Q (vi (weE V a)) H := by
  refine CC_dt fun Q hQ => ?_
  have n16 := tpN_le hT
  simp only [en_TP_wordEnd, e_TP_wordEnd_0, k_TP_wordEnd_0, rr, sh, Nat.reduceLT, Nat.reduceMul, Int.reduceToNat, Int.reduceGT, Int.reduceGE, Int.reduceNe, true_and, and_true, true_or, or_true, false_or, or_false, and_self, or_self, if_true, if_false, reduceIte, not_true_eq_false, not_false_eq_true, Int.reduceEq, Int.reduceNe, Int.reduceLT, Int.reduceLE, Int.reduceAdd, Int.reduceSub, Int.reduceMul, Int.reduceNeg, Nat.reduceAdd, Nat.reduceLeDiff, Nat.reduceEqDiff, ne_eq, List.length_cons, List.length_nil, Nat.reduceSub, ha]
  refine up_nat (P := fun k => weE V k = weE V a → R (d + 1) TP_wordEnd (blk TP_wordEnd 1) [va 2, vi k] [] H Q) (n := tpN V) ?_ ?_ a hn rfl
  · intro hs1
    have e : weE V (tpN V) = tpN V := weE_no (by rw [bz_past (Nat.le_refl _)]; rfl)
    rw [← hs1, e] at hQ
    rw [e_TP_wordEnd_1]
    simp only [k_TP_wordEnd_1, e_TP_wordEnd_2, k_TP_wordEnd_2, rr, sh, Nat.reduceLT, Nat.reduceMul, Int.reduceToNat, Int.reduceGT, Int.reduceGE, Int.reduceNe, true_and, and_true, true_or, or_true, false_or, or_false, and_self, or_self, if_true, if_false, reduceIte, not_true_eq_false, not_false_eq_true, Int.reduceEq, Int.reduceNe, Int.reduceLT, Int.reduceLE, Int.reduceAdd, Int.reduceSub, Int.reduceMul, Int.reduceNeg, Nat.reduceAdd, Nat.reduceLeDiff, Nat.reduceEqDiff, ne_eq, List.length_cons, List.length_nil, Nat.reduceSub, h.2.1, tpN_eq hT, Int.le_refl]
    exact hQ
  · intro k hk ih hs1
    have c1 : ¬ (tpN V : Int) ≤ k := by omega
    have kw := w32_s (n := k) (by omega)
    rw [e_TP_wordEnd_1]
    by_cases c : ltB (bz V k) = true
    · have ih' := ih (by rw [← weE_go hk c]; exact hs1)
      simp only [k_TP_wordEnd_1, rr, sh, Nat.reduceLT, Nat.reduceMul, Int.reduceToNat, Int.reduceGT, Int.reduceGE, Int.reduceNe, true_and, and_true, true_or, or_true, false_or, or_false, and_self, or_self, if_true, if_false, reduceIte, not_true_eq_false, not_false_eq_true, Int.reduceEq, Int.reduceNe, Int.reduceLT, Int.reduceLE, Int.reduceAdd, Int.reduceSub, Int.reduceMul, Int.reduceNeg, Nat.reduceAdd, Nat.reduceLeDiff, Nat.reduceEqDiff, ne_eq, List.length_cons, List.length_nil, Nat.reduceSub, h.2.1, tpN_eq hT, c1, q_byteZ hT h, q_isLetterC, c, bI, kw]
      exact ih'
    · have c' : ltB (bz V k) = false := by simpa using c
      rw [← hs1, weE_no c'] at hQ
      simp only [k_TP_wordEnd_1, e_TP_wordEnd_2, k_TP_wordEnd_2, rr, sh, Nat.reduceLT, Nat.reduceMul, Int.reduceToNat, Int.reduceGT, Int.reduceGE, Int.reduceNe, true_and, and_true, true_or, or_true, false_or, or_false, and_self, or_self, if_true, if_false, reduceIte, not_true_eq_false, not_false_eq_true, Int.reduceEq, Int.reduceNe, Int.reduceLT, Int.reduceLE, Int.reduceAdd, Int.reduceSub, Int.reduceMul, Int.reduceNeg, Nat.reduceAdd, Nat.reduceLeDiff, Nat.reduceEqDiff, ne_eq, List.length_cons, List.length_nil, Nat.reduceSub, h.2.1, tpN_eq hT, c1, q_byteZ hT h, q_isLetterC, c', bI]
      exact hQ
theorem ma_72 (hT : TapeR V) (h : TmV V H) {k : Nat} (hk : k < tpN V) : H 72 k = bz V k := by rw [h.2.2, bz_in hk]; rfl
set_option maxRecDepth 20000 in
theorem q_look (hT : TapeR V) (h : TmV V H) {a : Nat} (ha : H 71 2 = a) (hn : a ≤ tpN V) : CC d MO_look [va 71] H Q = Q (vi (bz V (skE V a))) (hs H 71 2 (skE V a)) := by
  refine CC_dt fun Q hQ => ?_
  have n16 := tpN_le hT
  have key : R d MO_look (blk MO_look 0) [va 71] [] (hs H 71 2 a) Q := by
    refine up_nat (P := fun k => skE V k = skE V a → R d MO_look (blk MO_look 0) [va 71] [] (hs H 71 2 k) Q) (n := tpN V) ?_ ?_ a hn rfl
    · intro hs1
      have hv : TmV V (hs H 71 2 (tpN V : Nat)) := h.hs (by decide)
      have e : skE V (tpN V) = tpN V := skE_no (blB_no (Nat.le_refl _))
      have g1 := hv.2.1
      rw [← hs1, e, bz_past (Nat.le_refl _)] at hQ
      rw [e_MO_look_0]
      simp only [k_MO_look_0, e_MO_look_2, k_MO_look_2, e_MO_look_3, k_MO_look_3, e_MO_look_4, k_MO_look_4, rr, sh, Nat.reduceLT, Nat.reduceMul, Int.reduceToNat, Int.reduceGT, Int.reduceGE, Int.reduceNe, true_and, and_true, true_or, or_true, false_or, or_false, and_self, or_self, if_true, if_false, reduceIte, not_true_eq_false, not_false_eq_true, Int.reduceEq, Int.reduceNe, Int.reduceLT, Int.reduceLE, Int.reduceAdd, Int.reduceSub, Int.reduceMul, Int.reduceNeg, Nat.reduceAdd, Nat.reduceLeDiff, Nat.reduceEqDiff, ne_eq, List.length_cons, List.length_nil, Nat.reduceSub, hs_same, g1, Int.le_refl]
      exact hQ
    · intro k hk ih hs1
      have hv : TmV V (hs H 71 2 k) := h.hs (by decide)
      have g0 := hv.1
      have g1 := hv.2.1
      have g2 := ma_72 hT hv hk
      have c1 : ¬ (tpN V : Int) ≤ k := by omega
      have j1 : 0 ≤ (k : Int) ∧ (k : Int) < 1600 := by omega
      have kw := w32_s (n := k) (by omega)
      have hh : hs (hs H 71 2 k) 71 2 ((k + 1 : Nat) : Int) = hs H 71 2 ((k + 1 : Nat) : Int) := by
        funext x y
        rw [hs_app, hs_app, hs_app]
        split <;> rfl
      rw [e_MO_look_0]
      by_cases c10 : bz V k = 10
      · have ih' := ih (by rw [← skE_go hk (decide_eq_true (Or.inl c10))]; exact hs1)
        simp only [k_MO_look_0, e_MO_look_1, k_MO_look_1, rr, sh, Nat.reduceLT, Nat.reduceMul, Int.reduceToNat, Int.reduceGT, Int.reduceGE, Int.reduceNe, true_and, and_true, true_or, or_true, false_or, or_false, and_self, or_self, if_true, if_false, reduceIte, not_true_eq_false, not_false_eq_true, Int.reduceEq, Int.reduceNe, Int.reduceLT, Int.reduceLE, Int.reduceAdd, Int.reduceSub, Int.reduceMul, Int.reduceNeg, Nat.reduceAdd, Nat.reduceLeDiff, Nat.reduceEqDiff, ne_eq, List.length_cons, List.length_nil, Nat.reduceSub, hs_same, g0, g1, g2, c1, j1, c10, kw, hh]
        exact ih'
      · by_cases c32 : bz V k = 32
        · have ih' := ih (by rw [← skE_go hk (decide_eq_true (Or.inr c32))]; exact hs1)
          simp only [k_MO_look_0, e_MO_look_1, k_MO_look_1, rr, sh, Nat.reduceLT, Nat.reduceMul, Int.reduceToNat, Int.reduceGT, Int.reduceGE, Int.reduceNe, true_and, and_true, true_or, or_true, false_or, or_false, and_self, or_self, if_true, if_false, reduceIte, not_true_eq_false, not_false_eq_true, Int.reduceEq, Int.reduceNe, Int.reduceLT, Int.reduceLE, Int.reduceAdd, Int.reduceSub, Int.reduceMul, Int.reduceNeg, Nat.reduceAdd, Nat.reduceLeDiff, Nat.reduceEqDiff, ne_eq, List.length_cons, List.length_nil, Nat.reduceSub, hs_same, g0, g1, g2, c1, j1, c32, kw, hh]
          exact ih'
        · rw [← hs1, skE_no (decide_eq_false (fun z => z.elim c10 c32))] at hQ
          simp only [k_MO_look_0, e_MO_look_2, k_MO_look_2, e_MO_look_3, k_MO_look_3, e_MO_look_4, k_MO_look_4, rr, sh, Nat.reduceLT, Nat.reduceMul, Int.reduceToNat, Int.reduceGT, Int.reduceGE, Int.reduceNe, true_and, and_true, true_or, or_true, false_or, or_false, and_self, or_self, if_true, if_false, reduceIte, not_true_eq_false, not_false_eq_true, Int.reduceEq, Int.reduceNe, Int.reduceLT, Int.reduceLE, Int.reduceAdd, Int.reduceSub, Int.reduceMul, Int.reduceNeg, Nat.reduceAdd, Nat.reduceLeDiff, Nat.reduceEqDiff, ne_eq, List.length_cons, List.length_nil, Nat.reduceSub, hs_same, g0, g1, g2, c1, j1, c10, c32]
          exact hQ
  rw [← ha, hs_self, e_MO_look_0] at key
  simp only [en_MO_look]
  exact key
end LY
