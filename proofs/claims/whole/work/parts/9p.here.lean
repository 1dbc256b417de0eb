/-! THE READING, the reference: is a word here -/
theorem mtB_iff {V : Hp} {e : Nat} : ∀ (w : List Int) (k : Nat), mtB V e k w = true ↔ ∀ i : Nat, i < w.length → k + i < e ∧ bz V (k + i) = w.getD i 0
  | [], k => ⟨fun _ i hi => absurd hi (Nat.not_lt_zero i), fun _ => rfl⟩
  | c :: cs, k => by
    show (decide (k < e) && (decide (bz V k = c) && mtB V e (k + 1) cs)) = true ↔ _
    rw [Bool.and_eq_true, Bool.and_eq_true, decide_eq_true_eq, decide_eq_true_eq, mtB_iff cs (k + 1)]
    constructor
    · rintro ⟨h1, h2, h3⟩ i hi
      cases i with
      | zero => exact ⟨h1, h2⟩
      | succ i =>
        have := h3 i (Nat.lt_of_succ_lt_succ hi)
        rw [show k + (i + 1) = k + 1 + i by omega]
        exact this
    · intro h
      refine ⟨(h 0 (Nat.succ_pos _)).1, (h 0 (Nat.succ_pos _)).2, fun i hi => ?_⟩
      have := h (i + 1) (Nat.succ_lt_succ hi)
      rw [show k + 1 + i = k + (i + 1) by omega]
      exact this
/-- the word w stands behind the blanks at a, and does not join on to what was read last -/
def hereB (V : Hp) (a : Nat) (j : Int) (w : List Int) : Bool := (ltB (bz V (skE V a)) && decide ((skE V a : Int) ≠ j)) && wdB V (skE V a) (weE V (skE V a)) w
/-- the cell c holds the letters w -/
def ChW (H : Hp) (c : Int) (w : List Int) : Prop := sht c = 4 ∧ shl c = (w.length : Nat) ∧ ∀ i : Nat, i < w.length → H c i = w.getD i 0
section LW
variable {d : Nat} {V H : Hp} {Q : AV → Hp → Prop}
set_option maxRecDepth 20000 in
theorem q_isHere (hT : TapeR V) (h : TmV V H) {a : Nat} (ha : H 71 2 = a) (hn : a ≤ tpN V) {j : Int} (hj : H 71 4 = j) (hb : H 71 5 = 0) {c : Int} (hc1 : c ≠ 71) {w : List Int} (hc : ChW H c w) (hw : w.length ≤ 100) : CC (d + 1) MO_isHere [va 71, va c] H Q = Q (vi (bI (hereB V a j w))) (hs H 71 2 (skE V a)) := by
  refine CC_dt fun Q hQ => ?_
  have n16 := tpN_le hT
  obtain ⟨s1, s2⟩ := skE_rng hn
  obtain ⟨t1, t2⟩ := weE_rng s2
  unfold hereB at hQ
  have hv : TmV V (hs H 71 2 (skE V a)) := h.hs (by decide)
  have b5 : hs H 71 2 (skE V a) 71 4 = j := (hs2 (by decide)).trans hj
  have hcw : ∀ i : Nat, i < w.length → hs H 71 2 (skE V a) c i = w.getD i 0 := fun i hi => by rw [hs_ne hc1]; exact hc.2.2 i hi
  have g0 := hv.1
  have g3 := hv.2.1
  by_cases l1 : ltB (bz V (skE V a)) = true
  · by_cases l2 : (skE V a : Int) = j
    · rw [l1, decide_eq_false (fun z => z l2), Bool.and_false, Bool.false_and] at hQ
      subst l2
      simp only [en_MO_isHere, e_MO_isHere_0, k_MO_isHere_0, e_MO_isHere_1, k_MO_isHere_1, rr, sh, Nat.reduceLT, Nat.reduceMul, Int.reduceToNat, Int.reduceGT, Int.reduceGE, Int.reduceNe, true_and, and_true, true_or, or_true, false_or, or_false, and_self, or_self, if_true, if_false, reduceIte, not_true_eq_false, not_false_eq_true, Int.reduceEq, Int.reduceNe, Int.reduceLT, Int.reduceLE, Int.reduceAdd, Int.reduceSub, Int.reduceMul, Int.reduceNeg, Nat.reduceAdd, Nat.reduceLeDiff, Nat.reduceEqDiff, ne_eq, List.length_cons, List.length_nil, Nat.reduceSub, hb, q_look hT h ha hn, q_isLetterM, l1, show bI true = 1 from rfl, hs_same, b5]
      exact hQ
    · rw [l1, decide_eq_true l2, Bool.and_true, Bool.true_and] at hQ
      simp only [en_MO_isHere, e_MO_isHere_0, k_MO_isHere_0, e_MO_isHere_2, k_MO_isHere_2, rr, sh, Nat.reduceLT, Nat.reduceMul, Int.reduceToNat, Int.reduceGT, Int.reduceGE, Int.reduceNe, true_and, and_true, true_or, or_true, false_or, or_false, and_self, or_self, if_true, if_false, reduceIte, not_true_eq_false, not_false_eq_true, Int.reduceEq, Int.reduceNe, Int.reduceLT, Int.reduceLE, Int.reduceAdd, Int.reduceSub, Int.reduceMul, Int.reduceNeg, Nat.reduceAdd, Nat.reduceLeDiff, Nat.reduceEqDiff, ne_eq, List.length_cons, List.length_nil, Nat.reduceSub, hb, q_look hT h ha hn, q_isLetterM, l1, show bI true = 1 from rfl, hs_same, b5, l2]
      have b2 : hs H 71 2 (skE V a) 71 2 = skE V a := hs_same
      generalize hs H 71 2 (skE V a) = G at *
      generalize skE V a = a1 at *
      have fin : ∀ k : Nat, k = weE V a1 → R (d + 1) MO_isHere (blk MO_isHere 4) [va 71, va c, vi k, vu] [] G Q := by
        intro k hk
        rw [← hk] at hQ t1 t2
        have w1 : w32 ((k : Int) - a1) = (k : Int) - a1 := w32_id (by omega) (by omega)
        by_cases hlen : a1 + w.length = k
        · have c5 : (k : Int) - a1 = (w.length : Nat) := by omega
          have ew : wdB V a1 k w = mtB V k a1 w := by unfold wdB; rw [decide_eq_true hlen, Bool.and_true]
          rw [ew] at hQ
          have w1' : w32 ((w.length : Nat) : Int) = (w.length : Nat) := by rw [← c5]; exact w1
          simp only [e_MO_isHere_4, k_MO_isHere_4, e_MO_isHere_5, k_MO_isHere_5, rr, sh, Nat.reduceLT, Nat.reduceMul, Int.reduceToNat, Int.reduceGT, Int.reduceGE, Int.reduceNe, true_and, and_true, true_or, or_true, false_or, or_false, and_self, or_self, if_true, if_false, reduceIte, not_true_eq_false, not_false_eq_true, Int.reduceEq, Int.reduceNe, Int.reduceLT, Int.reduceLE, Int.reduceAdd, Int.reduceSub, Int.reduceMul, Int.reduceNeg, Nat.reduceAdd, Nat.reduceLeDiff, Nat.reduceEqDiff, ne_eq, List.length_cons, List.length_nil, Nat.reduceSub, b2, c5, w1', hc.1, hc.2.1]
          clear w1 w1' c5 ew
          refine up_nat (P := fun i => (∀ i' : Nat, i' < i → bz V (a1 + i') = w.getD i' 0) → R (d + 1) MO_isHere (blk MO_isHere 6) [va 71, va c, vi k, vi i] [] G Q) (n := w.length) ?_ ?_ 0 (Nat.zero_le _) (fun i' hi => absurd hi (Nat.not_lt_zero i'))
          · intro hi
            have em : mtB V k a1 w = true := (mtB_iff w a1).mpr (fun i h1 => ⟨hlen ▸ Nat.add_lt_add_left h1 a1, hi i h1⟩)
            rw [em] at hQ
            rw [e_MO_isHere_6]
            simp only [k_MO_isHere_6, e_MO_isHere_8, k_MO_isHere_8, rr, sh, Nat.reduceLT, Nat.reduceMul, Int.reduceToNat, Int.reduceGT, Int.reduceGE, Int.reduceNe, true_and, and_true, true_or, or_true, false_or, or_false, and_self, or_self, if_true, if_false, reduceIte, not_true_eq_false, not_false_eq_true, Int.reduceEq, Int.reduceNe, Int.reduceLT, Int.reduceLE, Int.reduceAdd, Int.reduceSub, Int.reduceMul, Int.reduceNeg, Nat.reduceAdd, Nat.reduceLeDiff, Nat.reduceEqDiff, ne_eq, List.length_cons, List.length_nil, Nat.reduceSub, hc.1, hc.2.1, Int.le_refl]
            exact hQ
          · intro i hi ih hp
            have c6 : ¬ ((w.length : Nat) : Int) ≤ (i : Int) := by omega
            have j2 : 0 ≤ (i : Int) ∧ (i : Int) < (w.length : Nat) := by omega
            have kt : a1 + i < tpN V := by omega
            have j3 : 0 ≤ ((a1 + i : Nat) : Int) ∧ ((a1 + i : Nat) : Int) < 1600 := by omega
            have i9 : i < 2147483647 := by omega
            have w2 : w32 ((a1 : Int) + i) = ((a1 + i : Nat) : Int) := by rw [w32_id (by omega) (by omega)]; rfl
            have iw := w32_s (n := i) i9
            have g2 := ma_72 hT hv (k := a1 + i) kt
            have cw := hcw i hi
            rw [e_MO_isHere_6]
            by_cases e : bz V (a1 + i) = w.getD i 0
            · have ih' := ih (fun i' h1 => by
                by_cases z : i' = i
                · rw [z]; exact e
                · exact hp i' (Nat.lt_of_le_of_ne (Nat.le_of_lt_succ h1) z))
              simp only [k_MO_isHere_6, e_MO_isHere_7, k_MO_isHere_7, rr, sh, Nat.reduceLT, Nat.reduceMul, Int.reduceToNat, Int.reduceGT, Int.reduceGE, Int.reduceNe, true_and, and_true, true_or, or_true, false_or, or_false, and_self, or_self, if_true, if_false, reduceIte, not_true_eq_false, not_false_eq_true, Int.reduceEq, Int.reduceNe, Int.reduceLT, Int.reduceLE, Int.reduceAdd, Int.reduceSub, Int.reduceMul, Int.reduceNeg, Nat.reduceAdd, Nat.reduceLeDiff, Nat.reduceEqDiff, ne_eq, List.length_cons, List.length_nil, Nat.reduceSub, hc.1, hc.2.1, c6, j2, b2, w2, j3, g0, g2, cw, e, iw, eq_self]
              exact ih'
            · have em : mtB V k a1 w = false := by
                cases hm : mtB V k a1 w with
                | false => rfl
                | true => exact absurd ((mtB_iff w a1).mp hm i hi).2 e
              rw [em] at hQ
              simp only [k_MO_isHere_6, rr, sh, Nat.reduceLT, Nat.reduceMul, Int.reduceToNat, Int.reduceGT, Int.reduceGE, Int.reduceNe, true_and, and_true, true_or, or_true, false_or, or_false, and_self, or_self, if_true, if_false, reduceIte, not_true_eq_false, not_false_eq_true, Int.reduceEq, Int.reduceNe, Int.reduceLT, Int.reduceLE, Int.reduceAdd, Int.reduceSub, Int.reduceMul, Int.reduceNeg, Nat.reduceAdd, Nat.reduceLeDiff, Nat.reduceEqDiff, ne_eq, List.length_cons, List.length_nil, Nat.reduceSub, hc.1, hc.2.1, c6, j2, b2, w2, j3, g0, g2, cw, e]
              exact hQ
        · have c5 : ¬ (k : Int) - a1 = (w.length : Nat) := by omega
          have ew : wdB V a1 k w = false := by unfold wdB; rw [decide_eq_false hlen, Bool.and_false]
          rw [ew] at hQ
          simp only [e_MO_isHere_4, k_MO_isHere_4, rr, sh, Nat.reduceLT, Nat.reduceMul, Int.reduceToNat, Int.reduceGT, Int.reduceGE, Int.reduceNe, true_and, and_true, true_or, or_true, false_or, or_false, and_self, or_self, if_true, if_false, reduceIte, not_true_eq_false, not_false_eq_true, Int.reduceEq, Int.reduceNe, Int.reduceLT, Int.reduceLE, Int.reduceAdd, Int.reduceSub, Int.reduceMul, Int.reduceNeg, Nat.reduceAdd, Nat.reduceLeDiff, Nat.reduceEqDiff, ne_eq, List.length_cons, List.length_nil, Nat.reduceSub, b2, w1, c5, hc.1, hc.2.1]
          exact hQ
      refine up_nat (P := fun k => weE V k = weE V a1 → R (d + 1) MO_isHere (blk MO_isHere 3) [va 71, va c, vi k, vu] [] G Q) (n := tpN V) ?_ ?_ a1 s2 rfl
      · intro hs1
        have e : weE V (tpN V) = tpN V := weE_no (by rw [bz_past (Nat.le_refl _)]; rfl)
        rw [e] at hs1
        rw [e_MO_isHere_3]
        simp only [k_MO_isHere_3, rr, sh, Nat.reduceLT, Nat.reduceMul, Int.reduceToNat, Int.reduceGT, Int.reduceGE, Int.reduceNe, true_and, and_true, true_or, or_true, false_or, or_false, and_self, or_self, if_true, if_false, reduceIte, not_true_eq_false, not_false_eq_true, Int.reduceEq, Int.reduceNe, Int.reduceLT, Int.reduceLE, Int.reduceAdd, Int.reduceSub, Int.reduceMul, Int.reduceNeg, Nat.reduceAdd, Nat.reduceLeDiff, Nat.reduceEqDiff, ne_eq, List.length_cons, List.length_nil, Nat.reduceSub, g3, Int.le_refl]
        exact fin _ hs1
      · intro k hk ih hs1
        have c1 : ¬ (tpN V : Int) ≤ k := by omega
        have j1 : 0 ≤ (k : Int) ∧ (k : Int) < 1600 := by omega
        have kw := w32_s (n := k) (by omega)
        have g2 := ma_72 hT hv hk
        rw [e_MO_isHere_3]
        by_cases cc : ltB (bz V k) = true
        · have ih' := ih (by rw [← weE_go hk cc]; exact hs1)
          simp only [k_MO_isHere_3, rr, sh, Nat.reduceLT, Nat.reduceMul, Int.reduceToNat, Int.reduceGT, Int.reduceGE, Int.reduceNe, true_and, and_true, true_or, or_true, false_or, or_false, and_self, or_self, if_true, if_false, reduceIte, not_true_eq_false, not_false_eq_true, Int.reduceEq, Int.reduceNe, Int.reduceLT, Int.reduceLE, Int.reduceAdd, Int.reduceSub, Int.reduceMul, Int.reduceNeg, Nat.reduceAdd, Nat.reduceLeDiff, Nat.reduceEqDiff, ne_eq, List.length_cons, List.length_nil, Nat.reduceSub, g0, g2, g3, c1, j1, q_isLetterM, cc, show bI true = 1 from rfl, kw]
          exact ih'
        · have c' : ltB (bz V k) = false := by simpa using cc
          rw [weE_no c'] at hs1
          simp only [k_MO_isHere_3, rr, sh, Nat.reduceLT, Nat.reduceMul, Int.reduceToNat, Int.reduceGT, Int.reduceGE, Int.reduceNe, true_and, and_true, true_or, or_true, false_or, or_false, and_self, or_self, if_true, if_false, reduceIte, not_true_eq_false, not_false_eq_true, Int.reduceEq, Int.reduceNe, Int.reduceLT, Int.reduceLE, Int.reduceAdd, Int.reduceSub, Int.reduceMul, Int.reduceNeg, Nat.reduceAdd, Nat.reduceLeDiff, Nat.reduceEqDiff, ne_eq, List.length_cons, List.length_nil, Nat.reduceSub, g0, g2, g3, c1, j1, q_isLetterM, c', show bI false = 0 from rfl]
          exact fin _ hs1
  · have l1' : ltB (bz V (skE V a)) = false := by simpa using l1
    rw [l1', Bool.false_and, Bool.false_and] at hQ
    simp only [en_MO_isHere, e_MO_isHere_0, k_MO_isHere_0, e_MO_isHere_1, k_MO_isHere_1, rr, sh, Nat.reduceLT, Nat.reduceMul, Int.reduceToNat, Int.reduceGT, Int.reduceGE, Int.reduceNe, true_and, and_true, true_or, or_true, false_or, or_false, and_self, or_self, if_true, if_false, reduceIte, not_true_eq_false, not_false_eq_true, Int.reduceEq, Int.reduceNe, Int.reduceLT, Int.reduceLE, Int.reduceAdd, Int.reduceSub, Int.reduceMul, Int.reduceNeg, Nat.reduceAdd, Nat.reduceLeDiff, Nat.reduceEqDiff, ne_eq, List.length_cons, List.length_nil, Nat.reduceSub, hb, q_look hT h ha hn, q_isLetterM, l1', show bI false = 0 from rfl]
    exact hQ
end LW
