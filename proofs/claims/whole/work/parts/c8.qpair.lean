/-! QUESTIONS: the class's pairs, facts, tests -/
section QD1
variable {V : Hp}
theorem fx_ps {H : Hp} {a b c : Int} : Fx sQC H (hs (hs (hs H 2 2 a) 2 2 b) 2 3 c) := fx_qc (((Fx.rf.hs (c := 2) (j := 2) rfl).hs (c := 2) (j := 2) rfl).hs (c := 2) (j := 3) rfl)
theorem fx_p2 {H : Hp} {b c : Int} : Fx sQC H (hs (hs H 2 2 b) 2 3 c) := fx_qc ((Fx.rf.hs (c := 2) (j := 2) rfl).hs (c := 2) (j := 3) rfl)
theorem q_pairC (hT : TapeR V) {X : Hp} {Q : AV → Hp → Prop} {d a o k : Nat} {j w : Int} {c0 : List Int} {outA out : QO} (hD : k ≤ d) (hP : Ptr X) (h1 : CQa V X a j c0) (hw : 0 ≤ w ∧ w ≤ 100)
    (h0 : ¬ bz V (skE V (enE V a)) = 40 → out = .error (1, (skE V (enE V a) : Int)))
    (hN : bz V (skE V (enE V a)) = 40 → ¬ o < 6 → out = .error (4, (skE V (enE V a) : Int)))
    (hA : bz V (skE V (enE V a)) = 40 → o < 6 → CQ V QU_sum (k + 5) (skE V (skE V (enE V a) + 1)) (enE V a) (o + 1) outA)
    (hE : bz V (skE V (enE V a)) = 40 → o < 6 → ∀ x, outA = .error x → out = .error x)
    (hC : bz V (skE V (enE V a)) = 40 → o < 6 → ∀ a2 j2 cs1, outA = .ok (a2, j2, cs1) → ¬ bz V a2 = 44 → out = .error (1, (a2 : Int)))
    (hB : bz V (skE V (enE V a)) = 40 → o < 6 → ∀ a2 j2 cs1, outA = .ok (a2, j2, cs1) → bz V a2 = 44 → ∃ outB, CQ V QU_sum (k + 5) (skE V (a2 + 1)) j2 (o + 1) outB ∧ out = quS V 41 (fun c => cs1 ++ (c ++ [-1 - w])) outB ∧ ∀ a3 j3 cs2, outB = .ok (a3, j3, cs2) → a + cs1.length + cs2.length ≤ a3)
    (he : ∀ kk pl, out = .error (kk, pl) → ∀ H', Fx sQC X H' → H' 2 6 = kk → H' 2 7 = pl → 0 ≤ H' 38 2 → Q (vi 0) H')
    (hk : ∀ a' j' cs, out = .ok (a', j', cs) → ∀ H', Fx sQC X H' → CQs V H' a' j' (c0 ++ cs) → Q (vi 1) H') : CC (d + 8) QU_pair [va 38, va 2, vi o, vi w] X Q := by
  have h2 := h1.pass
  have hn := h1.1.2.2.2.2.2
  have F : Fx sQC X (hs (hs X 2 2 (enE V a)) 2 3 (enE V a)) := fx_p2
  have e0 : X 38 1 = 39 := h1.2.2.2.2.2
  have l0 := h1.2.2.2.2.1
  by_cases b0 : bz V (skE V (enE V a)) = 40
  · have h3 := h2.mv
    have F3 : Fx sQC X (hs (hs (hs X 2 2 (enE V a)) 2 3 (enE V a)) 2 2 (skE V (enE V a))) := F.tr (fx_qc (Fx.rf.hs (c := 2) (j := 2) rfl))
    -- told behind a fault
    have fe : ∀ kk pl H', out = .error (kk, pl) → Fx sQC X H' → H' 2 6 = kk → H' 2 7 = pl → 0 ≤ H' 38 2 → R (d + 8) QU_pair (blk QU_pair 2) [va 38, va 2, vi o, vi w, vu] [] H' Q := by
      intro kk pl H' z G q6 q7 u
      simp only [e_QU_pair_2, k_QU_pair_2, e_QU_pair_3, k_QU_pair_3, rr, sh, Nat.reduceLT, Nat.reduceMul, Int.reduceToNat, Int.reduceGT, Int.reduceGE, Int.reduceNe, true_and, and_true, true_or, or_true, false_or, or_false, and_self, or_self, if_true, if_false, reduceIte, not_true_eq_false, not_false_eq_true, Int.reduceEq, Int.reduceNe, Int.reduceLT, Int.reduceLE, Int.reduceAdd, Int.reduceSub, Int.reduceMul, Int.reduceNeg, Nat.reduceAdd, Nat.reduceLeDiff, Nat.reduceEqDiff, ne_eq, List.length_cons, List.length_nil, Nat.reduceSub]
      refine c_codeE (d := d + 6) hw (e381 e0 G) u (fun H3 G3 e3 u3 => ?_)
      exact he kk pl z H3 (G.tr G3) (by rw [e3]; exact q6) (by rw [e3]; exact q7) u3
    by_cases ho : o < 6
    · have hA := hA b0 ho
      have hE := hE b0 ho
      have hC := hC b0 ho
      have hB := hB b0 ho
      have h4 := h3.sign (by rw [b0]; decide)
      have F4 : Fx sQC X (hs (hs (hs (hs X 2 2 (enE V a)) 2 3 (enE V a)) 2 2 (skE V (enE V a))) 2 2 ((skE V (enE V a) + 1 : Nat) : Int)) := F3.tr (fx_qc (Fx.rf.hs (c := 2) (j := 2) rfl))
      have w1 := wo ho
      simp only [en_QU_pair, e_QU_pair_0, k_QU_pair_0, e_QU_pair_1, k_QU_pair_1, rr, sh, Nat.reduceLT, Nat.reduceMul, Int.reduceToNat, Int.reduceGT, Int.reduceGE, Int.reduceNe, true_and, and_true, true_or, or_true, false_or, or_false, and_self, or_self, if_true, if_false, reduceIte, not_true_eq_false, not_false_eq_true, Int.reduceEq, Int.reduceNe, Int.reduceLT, Int.reduceLE, Int.reduceAdd, Int.reduceSub, Int.reduceMul, Int.reduceNeg, Nat.reduceAdd, Nat.reduceLeDiff, Nat.reduceEqDiff, ne_eq, List.length_cons, List.length_nil, Nat.reduceSub, x_pass hT h1, x_next hT h2, b0, q_mayY ho, x_sign hT h3 b0, w1]
      refine hA (d + 7) _ _ c0 (by clear w1; omega) (ptr_qc hP F4) h4 (fun kk pl z H' F2 q6 q7 u => ?_) (fun a2 j2 cs1 z H' F2 hCs => ?_)
      · have := fe kk pl H' (hE _ z) (F4.tr F2) q6 q7 u
        simp only [rr, sh, Nat.reduceLT, Nat.reduceMul, Int.reduceToNat, Int.reduceGT, Int.reduceGE, Int.reduceNe, true_and, and_true, true_or, or_true, false_or, or_false, and_self, or_self, if_true, if_false, reduceIte, not_true_eq_false, not_false_eq_true, Int.reduceEq, Int.reduceNe, Int.reduceLT, Int.reduceLE, Int.reduceAdd, Int.reduceSub, Int.reduceMul, Int.reduceNeg, Nat.reduceAdd, Nat.reduceLeDiff, Nat.reduceEqDiff, ne_eq, List.length_cons, List.length_nil, Nat.reduceSub]
        exact this
      · by_cases c : bz V a2 = 44
        · obtain ⟨outB, hSB, eB, lB⟩ := hB _ _ _ z c
          have h5 := hCs.mv.sign (by rw [c]; decide)
          have G5 := (F4.tr F2).tr (fx_s1 (H := H') (a := a2) (b := ((a2 + 1 : Nat) : Int)))
          simp only [rr, sh, Nat.reduceLT, Nat.reduceMul, Int.reduceToNat, Int.reduceGT, Int.reduceGE, Int.reduceNe, true_and, and_true, true_or, or_true, false_or, or_false, and_self, or_self, if_true, if_false, reduceIte, not_true_eq_false, not_false_eq_true, Int.reduceEq, Int.reduceNe, Int.reduceLT, Int.reduceLE, Int.reduceAdd, Int.reduceSub, Int.reduceMul, Int.reduceNeg, Nat.reduceAdd, Nat.reduceLeDiff, Nat.reduceEqDiff, ne_eq, List.length_cons, List.length_nil, Nat.reduceSub, x_signY hT hCs c, w1]
          refine hSB (d + 7) _ _ (c0 ++ cs1) (by clear w1; omega) (ptr_qc hP G5) h5 (fun kk pl y H3 F3 q6 q7 u => ?_) (fun a3 j3 cs2 y H3 F3 hC3 => ?_)
          · have := fe kk pl H3 (by rw [eB, y]; try rfl) (G5.tr F3) q6 q7 u
            simp only [rr, sh, Nat.reduceLT, Nat.reduceMul, Int.reduceToNat, Int.reduceGT, Int.reduceGE, Int.reduceNe, true_and, and_true, true_or, or_true, false_or, or_false, and_self, or_self, if_true, if_false, reduceIte, not_true_eq_false, not_false_eq_true, Int.reduceEq, Int.reduceNe, Int.reduceLT, Int.reduceLE, Int.reduceAdd, Int.reduceSub, Int.reduceMul, Int.reduceNeg, Nat.reduceAdd, Nat.reduceLeDiff, Nat.reduceEqDiff, ne_eq, List.length_cons, List.length_nil, Nat.reduceSub]
            exact this
          · by_cases c3 : bz V a3 = 41
            · have h6 := hC3.mv.sign (by rw [c3]; decide)
              have a3lt := bz_in' (V := V) (k := a3) rfl (by rw [c3]; decide)
              have hl : (c0 ++ cs1 ++ cs2).length + 1 ≤ skE V (a3 + 1) := by
                have := lB _ _ _ y
                have := (skE_rng (V := V) (a := a3 + 1) a3lt).1
                rw [List.length_append, List.length_append]
                clear w1
                omega
              have ex : c0 ++ cs1 ++ cs2 ++ [-1 - w] = c0 ++ (cs1 ++ (cs2 ++ [-1 - w])) := by simp only [List.append_assoc]
              have hp := h6.push hl (e := -1 - w)
              rw [ex] at hp
              have := hk _ _ _ (by rw [eB, y]; exact if_pos c3) _ (((G5.tr F3).tr fx_s1).tr push_fx) hp
              simp only [e_QU_pair_3, k_QU_pair_3, rr, sh, Nat.reduceLT, Nat.reduceMul, Int.reduceToNat, Int.reduceGT, Int.reduceGE, Int.reduceNe, true_and, and_true, true_or, or_true, false_or, or_false, and_self, or_self, if_true, if_false, reduceIte, not_true_eq_false, not_false_eq_true, Int.reduceEq, Int.reduceNe, Int.reduceLT, Int.reduceLE, Int.reduceAdd, Int.reduceSub, Int.reduceMul, Int.reduceNeg, Nat.reduceAdd, Nat.reduceLeDiff, Nat.reduceEqDiff, ne_eq, List.length_cons, List.length_nil, Nat.reduceSub, x_signY hT hC3 c3, q_codeC hT h6 hl hw]
              exact this
            · have := fe 1 a3 _ (by rw [eB, y]; exact if_neg c3) ((G5.tr F3).tr (fx_s2 (H := H3) (a := a3) (b := 1))) fl_6 hs_same (u_f hC3.u0)
              simp only [rr, sh, Nat.reduceLT, Nat.reduceMul, Int.reduceToNat, Int.reduceGT, Int.reduceGE, Int.reduceNe, true_and, and_true, true_or, or_true, false_or, or_false, and_self, or_self, if_true, if_false, reduceIte, not_true_eq_false, not_false_eq_true, Int.reduceEq, Int.reduceNe, Int.reduceLT, Int.reduceLE, Int.reduceAdd, Int.reduceSub, Int.reduceMul, Int.reduceNeg, Nat.reduceAdd, Nat.reduceLeDiff, Nat.reduceEqDiff, ne_eq, List.length_cons, List.length_nil, Nat.reduceSub, x_signN hT hC3 c3]
              exact this
        · have := fe 1 a2 _ (hC _ _ _ z c) ((F4.tr F2).tr (fx_s2 (H := H') (a := a2) (b := 1))) fl_6 hs_same (u_f hCs.u0)
          simp only [rr, sh, Nat.reduceLT, Nat.reduceMul, Int.reduceToNat, Int.reduceGT, Int.reduceGE, Int.reduceNe, true_and, and_true, true_or, or_true, false_or, or_false, and_self, or_self, if_true, if_false, reduceIte, not_true_eq_false, not_false_eq_true, Int.reduceEq, Int.reduceNe, Int.reduceLT, Int.reduceLE, Int.reduceAdd, Int.reduceSub, Int.reduceMul, Int.reduceNeg, Nat.reduceAdd, Nat.reduceLeDiff, Nat.reduceEqDiff, ne_eq, List.length_cons, List.length_nil, Nat.reduceSub, x_signN hT hCs c]
          exact this
    · have b2 : hs (hs (hs X 2 2 (enE V a)) 2 3 (enE V a)) 2 2 (skE V (enE V a)) 2 2 = skE V (enE V a) := hs_same
      have := fe 4 _ _ (hN b0 ho) (F.tr (fx_s2 (a := skE V (enE V a)) (b := 4))) fl_6 hs_same (u_f h2.u0)
      simp only [en_QU_pair, e_QU_pair_0, k_QU_pair_0, e_QU_pair_1, k_QU_pair_1, rr, sh, Nat.reduceLT, Nat.reduceMul, Int.reduceToNat, Int.reduceGT, Int.reduceGE, Int.reduceNe, true_and, and_true, true_or, or_true, false_or, or_false, and_self, or_self, if_true, if_false, reduceIte, not_true_eq_false, not_false_eq_true, Int.reduceEq, Int.reduceNe, Int.reduceLT, Int.reduceLE, Int.reduceAdd, Int.reduceSub, Int.reduceMul, Int.reduceNeg, Nat.reduceAdd, Nat.reduceLeDiff, Nat.reduceEqDiff, ne_eq, List.length_cons, List.length_nil, Nat.reduceSub, x_pass hT h1, x_next hT h2, b0, q_mayN ho, b2]
      exact this
  · have := he 1 _ (h0 b0) _ (F.tr (fx_s2 (a := skE V (enE V a)) (b := 1))) fl_6 hs_same (u_f h2.u0)
    simp only [en_QU_pair, e_QU_pair_0, k_QU_pair_0, rr, sh, Nat.reduceLT, Nat.reduceMul, Int.reduceToNat, Int.reduceGT, Int.reduceGE, Int.reduceNe, true_and, and_true, true_or, or_true, false_or, or_false, and_self, or_self, if_true, if_false, reduceIte, not_true_eq_false, not_false_eq_true, Int.reduceEq, Int.reduceNe, Int.reduceLT, Int.reduceLE, Int.reduceAdd, Int.reduceSub, Int.reduceMul, Int.reduceNeg, Nat.reduceAdd, Nat.reduceLeDiff, Nat.reduceEqDiff, ne_eq, List.length_cons, List.length_nil, Nat.reduceSub, x_pass hT h1, x_next hT h2, b0, x_failH]
    exact this
theorem c_pair (hT : TapeR V) {a o k : Nat} {j w : Int} {outA out : QO} (hsk : skE V a = a) (hw : wrI V a j QW = w) (h3 : w = 15 ∨ w = 16)
    (h0 : ¬ bz V (skE V (enE V a)) = 40 → out = .error (1, (skE V (enE V a) : Int)))
    (hN : bz V (skE V (enE V a)) = 40 → ¬ o < 6 → out = .error (4, (skE V (enE V a) : Int)))
    (hA : bz V (skE V (enE V a)) = 40 → o < 6 → CQ V QU_sum (k + 5) (skE V (skE V (enE V a) + 1)) (enE V a) (o + 1) outA)
    (hE : bz V (skE V (enE V a)) = 40 → o < 6 → ∀ x, outA = .error x → out = .error x)
    (hC : bz V (skE V (enE V a)) = 40 → o < 6 → ∀ a2 j2 cs1, outA = .ok (a2, j2, cs1) → ¬ bz V a2 = 44 → out = .error (1, (a2 : Int)))
    (hB : bz V (skE V (enE V a)) = 40 → o < 6 → ∀ a2 j2 cs1, outA = .ok (a2, j2, cs1) → bz V a2 = 44 → ∃ outB, CQ V QU_sum (k + 5) (skE V (a2 + 1)) j2 (o + 1) outB ∧ out = quS V 41 (fun c => cs1 ++ (c ++ [-1 - w])) outB ∧ ∀ a3 j3 cs2, outB = .ok (a3, j3, cs2) → a + cs1.length + cs2.length ≤ a3) : CQ V QU_part (k + 9) a j o out := by
  intro D H Q c0 hD hP h he hk
  obtain ⟨d, rfl⟩ := ex_d (k := 9) (D := D) (by omega)
  have h1 := h.mv
  obtain ⟨nd, n40, -⟩ := lt_nd (wr_dg hT hsk hw (by omega))
  have hx : CC (d + 8) TP_wordHere [va 2, va 902] (hs H 2 2 a) = fun Q => Q (vi w) (hs H 2 2 a) := by funext Q; rw [x_word (d := d + 5) hT h1.s, hw, x_same h1]
  have F1 : Fx sQC H (hs H 2 2 a) := fx_qc (Fx.rf.hs (c := 2) (j := 2) rfl)
  simp only [en_QU_part, e_QU_part_0, k_QU_part_0, e_QU_part_3, k_QU_part_3, e_QU_part_4, k_QU_part_4, rr, sh, Nat.reduceLT, Nat.reduceMul, Int.reduceToNat, Int.reduceGT, Int.reduceGE, Int.reduceNe, true_and, and_true, true_or, or_true, false_or, or_false, and_self, or_self, if_true, if_false, reduceIte, not_true_eq_false, not_false_eq_true, Int.reduceEq, Int.reduceNe, Int.reduceLT, Int.reduceLE, Int.reduceAdd, Int.reduceSub, Int.reduceMul, Int.reduceNeg, Nat.reduceAdd, Nat.reduceLeDiff, Nat.reduceEqDiff, ne_eq, List.length_cons, List.length_nil, Nat.reduceSub, x_next hT h, n40, q_isDigitC, nd, show bI false = 0 from rfl, hx]
  rcases h3 with rfl | rfl
  all_goals
    simp only [e_QU_part_7, k_QU_part_7, rr, sh, Nat.reduceLT, Nat.reduceMul, Int.reduceToNat, Int.reduceGT, Int.reduceGE, Int.reduceNe, true_and, and_true, true_or, or_true, false_or, or_false, and_self, or_self, if_true, if_false, reduceIte, not_true_eq_false, not_false_eq_true, Int.reduceEq, Int.reduceNe, Int.reduceLT, Int.reduceLE, Int.reduceAdd, Int.reduceSub, Int.reduceMul, Int.reduceNeg, Nat.reduceAdd, Nat.reduceLeDiff, Nat.reduceEqDiff, ne_eq, List.length_cons, List.length_nil, Nat.reduceSub]
    refine q_pairC (k := k) hT (by omega) (ptr_qc hP F1) h1 (by decide) h0 hN hA hE hC hB (fun kk pl z H' F q6 q7 u => ?_) (fun a' j' cs z H' F hC' => ?_)
    · simp only [rr, sh, Nat.reduceLT, Nat.reduceMul, Int.reduceToNat, Int.reduceGT, Int.reduceGE, Int.reduceNe, true_and, and_true, true_or, or_true, false_or, or_false, and_self, or_self, if_true, if_false, reduceIte, not_true_eq_false, not_false_eq_true, Int.reduceEq, Int.reduceNe, Int.reduceLT, Int.reduceLE, Int.reduceAdd, Int.reduceSub, Int.reduceMul, Int.reduceNeg, Nat.reduceAdd, Nat.reduceLeDiff, Nat.reduceEqDiff, ne_eq, List.length_cons, List.length_nil, Nat.reduceSub]
      exact he kk pl z H' (F1.tr F) q6 q7 u
    · simp only [rr, sh, Nat.reduceLT, Nat.reduceMul, Int.reduceToNat, Int.reduceGT, Int.reduceGE, Int.reduceNe, true_and, and_true, true_or, or_true, false_or, or_false, and_self, or_self, if_true, if_false, reduceIte, not_true_eq_false, not_false_eq_true, Int.reduceEq, Int.reduceNe, Int.reduceLT, Int.reduceLE, Int.reduceAdd, Int.reduceSub, Int.reduceMul, Int.reduceNeg, Nat.reduceAdd, Nat.reduceLeDiff, Nat.reduceEqDiff, ne_eq, List.length_cons, List.length_nil, Nat.reduceSub]
      exact hk a' j' cs z H' (F1.tr F) hC'
/-- SUM, a sign, SUM -/
theorem c_comp (hT : TapeR V) {a o k : Nat} {j : Int} {outA out : QO} (hA : CQ V QU_sum (k + 5) a j o outA)
    (hE : ∀ x, outA = .error x → out = .error x) (hC : ∀ a2 j2 cs1, outA = .ok (a2, j2, cs1) → ¬ (bz V a2 = 60 ∨ bz V a2 = 62 ∨ bz V a2 = 61) → out = .error (1, (a2 : Int)))
    (hB : ∀ a2 j2 cs1, outA = .ok (a2, j2, cs1) → ∀ e : Int, (bz V a2 = 60 ∧ e = -22) ∨ (bz V a2 = 62 ∧ e = -23) ∨ (bz V a2 = 61 ∧ e = -24) → ∃ outB, CQ V QU_sum (k + 5) (skE V (a2 + 1)) j2 o outB ∧ out = quF (fun c => cs1 ++ (c ++ [e])) outB ∧ ∀ a3 j3 cs2, outB = .ok (a3, j3, cs2) → a + cs1.length + cs2.length + 1 ≤ a3) : CQ V QU_comparison (k + 8) a j o out := by
  intro D H Q c0 hD hP h he hk
  obtain ⟨d, rfl⟩ := ex_d (k := 8) (D := D) (by omega)
  have e0 : H 38 1 = 39 := h.2.2.2.2
  have l0 := h.2.2.2.1
  simp only [en_QU_comparison, e_QU_comparison_0, k_QU_comparison_0, rr, sh, Nat.reduceLT, Nat.reduceMul, Int.reduceToNat, Int.reduceGT, Int.reduceGE, Int.reduceNe, true_and, and_true, true_or, or_true, false_or, or_false, and_self, or_self, if_true, if_false, reduceIte, not_true_eq_false, not_false_eq_true, Int.reduceEq, Int.reduceNe, Int.reduceLT, Int.reduceLE, Int.reduceAdd, Int.reduceSub, Int.reduceMul, Int.reduceNeg, Nat.reduceAdd, Nat.reduceLeDiff, Nat.reduceEqDiff, ne_eq, List.length_cons, List.length_nil, Nat.reduceSub]
  refine hA (d + 7) _ _ c0 (by omega) hP h (fun kk pl z H' F q6 q7 u => ?_) (fun a2 j2 cs1 z H' F hCs => ?_)
  · have := he kk pl (hE _ z) H' F q6 q7 u
    simp only [rr, sh, Nat.reduceLT, Nat.reduceMul, Int.reduceToNat, Int.reduceGT, Int.reduceGE, Int.reduceNe, true_and, and_true, true_or, or_true, false_or, or_false, and_self, or_self, if_true, if_false, reduceIte, not_true_eq_false, not_false_eq_true, Int.reduceEq, Int.reduceNe, Int.reduceLT, Int.reduceLE, Int.reduceAdd, Int.reduceSub, Int.reduceMul, Int.reduceNeg, Nat.reduceAdd, Nat.reduceLeDiff, Nat.reduceEqDiff, ne_eq, List.length_cons, List.length_nil, Nat.reduceSub]
    exact this
  · by_cases c : bz V a2 = 60 ∨ bz V a2 = 62 ∨ bz V a2 = 61
    · have hm := hCs.mv
      have h5 := hm.sign (by omega)
      have G5 := F.tr (fx_s1 (H := H') (a := a2) (b := ((a2 + 1 : Nat) : Int)))
      rcases c with c | c | c
      · obtain ⟨outB, hSB, eB, lB⟩ := hB _ _ _ z (-22) (Or.inl ⟨c, rfl⟩)
        simp only [e_QU_comparison_1, k_QU_comparison_1, e_QU_comparison_2, k_QU_comparison_2, rr, sh, Nat.reduceLT, Nat.reduceMul, Int.reduceToNat, Int.reduceGT, Int.reduceGE, Int.reduceNe, true_and, and_true, true_or, or_true, false_or, or_false, and_self, or_self, if_true, if_false, reduceIte, not_true_eq_false, not_false_eq_true, Int.reduceEq, Int.reduceNe, Int.reduceLT, Int.reduceLE, Int.reduceAdd, Int.reduceSub, Int.reduceMul, Int.reduceNeg, Nat.reduceAdd, Nat.reduceLeDiff, Nat.reduceEqDiff, ne_eq, List.length_cons, List.length_nil, Nat.reduceSub, x_next hT hCs, c, x_sign hT hm c]
        refine hSB (d + 7) _ _ (c0 ++ cs1) (by omega) (ptr_qc hP G5) h5 (fun kk pl y H3 F3 q6 q7 u => ?_) (fun a3 j3 cs2 y H3 F3 hC3 => ?_)
        · simp only [e_QU_comparison_3, k_QU_comparison_3, e_QU_comparison_4, k_QU_comparison_4, e_QU_comparison_5, k_QU_comparison_5, e_QU_comparison_6, k_QU_comparison_6, rr, sh, Nat.reduceLT, Nat.reduceMul, Int.reduceToNat, Int.reduceGT, Int.reduceGE, Int.reduceNe, true_and, and_true, true_or, or_true, false_or, or_false, and_self, or_self, if_true, if_false, reduceIte, not_true_eq_false, not_false_eq_true, Int.reduceEq, Int.reduceNe, Int.reduceLT, Int.reduceLE, Int.reduceAdd, Int.reduceSub, Int.reduceMul, Int.reduceNeg, Nat.reduceAdd, Nat.reduceLeDiff, Nat.reduceEqDiff, ne_eq, List.length_cons, List.length_nil, Nat.reduceSub]
          refine c_codeE (d := d + 6) (by decide) (e381 e0 (G5.tr F3)) u (fun H4 G4 e4 u4 => ?_)
          have := he kk pl (by rw [eB, y]; try rfl) H4 ((G5.tr F3).tr G4) (by rw [e4]; exact q6) (by rw [e4]; exact q7) u4
          exact this
        · have hl : (c0 ++ cs1 ++ cs2).length + 1 ≤ a3 := by
            have := lB _ _ _ y
            rw [List.length_append, List.length_append]
            omega
          have ex : c0 ++ cs1 ++ cs2 ++ [-22] = c0 ++ (cs1 ++ (cs2 ++ [-22])) := by simp only [List.append_assoc]
          have hp := hC3.push hl (e := -22)
          rw [ex] at hp
          have := hk _ _ _ (by rw [eB, y]; try rfl) _ ((G5.tr F3).tr push_fx) hp
          simp only [e_QU_comparison_3, k_QU_comparison_3, e_QU_comparison_4, k_QU_comparison_4, e_QU_comparison_5, k_QU_comparison_5, e_QU_comparison_6, k_QU_comparison_6, rr, sh, Nat.reduceLT, Nat.reduceMul, Int.reduceToNat, Int.reduceGT, Int.reduceGE, Int.reduceNe, true_and, and_true, true_or, or_true, false_or, or_false, and_self, or_self, if_true, if_false, reduceIte, not_true_eq_false, not_false_eq_true, Int.reduceEq, Int.reduceNe, Int.reduceLT, Int.reduceLE, Int.reduceAdd, Int.reduceSub, Int.reduceMul, Int.reduceNeg, Nat.reduceAdd, Nat.reduceLeDiff, Nat.reduceEqDiff, ne_eq, List.length_cons, List.length_nil, Nat.reduceSub, q_codeC hT hC3 hl (c := 21) (by decide)]
          exact this
      · obtain ⟨outB, hSB, eB, lB⟩ := hB _ _ _ z (-23) (Or.inr (Or.inl ⟨c, rfl⟩))
        simp only [e_QU_comparison_1, k_QU_comparison_1, e_QU_comparison_2, k_QU_comparison_2, rr, sh, Nat.reduceLT, Nat.reduceMul, Int.reduceToNat, Int.reduceGT, Int.reduceGE, Int.reduceNe, true_and, and_true, true_or, or_true, false_or, or_false, and_self, or_self, if_true, if_false, reduceIte, not_true_eq_false, not_false_eq_true, Int.reduceEq, Int.reduceNe, Int.reduceLT, Int.reduceLE, Int.reduceAdd, Int.reduceSub, Int.reduceMul, Int.reduceNeg, Nat.reduceAdd, Nat.reduceLeDiff, Nat.reduceEqDiff, ne_eq, List.length_cons, List.length_nil, Nat.reduceSub, x_next hT hCs, c, x_sign hT hm c]
        refine hSB (d + 7) _ _ (c0 ++ cs1) (by omega) (ptr_qc hP G5) h5 (fun kk pl y H3 F3 q6 q7 u => ?_) (fun a3 j3 cs2 y H3 F3 hC3 => ?_)
        · simp only [e_QU_comparison_3, k_QU_comparison_3, e_QU_comparison_4, k_QU_comparison_4, e_QU_comparison_5, k_QU_comparison_5, e_QU_comparison_6, k_QU_comparison_6, rr, sh, Nat.reduceLT, Nat.reduceMul, Int.reduceToNat, Int.reduceGT, Int.reduceGE, Int.reduceNe, true_and, and_true, true_or, or_true, false_or, or_false, and_self, or_self, if_true, if_false, reduceIte, not_true_eq_false, not_false_eq_true, Int.reduceEq, Int.reduceNe, Int.reduceLT, Int.reduceLE, Int.reduceAdd, Int.reduceSub, Int.reduceMul, Int.reduceNeg, Nat.reduceAdd, Nat.reduceLeDiff, Nat.reduceEqDiff, ne_eq, List.length_cons, List.length_nil, Nat.reduceSub]
          refine c_codeE (d := d + 6) (by decide) (e381 e0 (G5.tr F3)) u (fun H4 G4 e4 u4 => ?_)
          have := he kk pl (by rw [eB, y]; try rfl) H4 ((G5.tr F3).tr G4) (by rw [e4]; exact q6) (by rw [e4]; exact q7) u4
          exact this
        · have hl : (c0 ++ cs1 ++ cs2).length + 1 ≤ a3 := by
            have := lB _ _ _ y
            rw [List.length_append, List.length_append]
            omega
          have ex : c0 ++ cs1 ++ cs2 ++ [-23] = c0 ++ (cs1 ++ (cs2 ++ [-23])) := by simp only [List.append_assoc]
          have hp := hC3.push hl (e := -23)
          rw [ex] at hp
          have := hk _ _ _ (by rw [eB, y]; try rfl) _ ((G5.tr F3).tr push_fx) hp
          simp only [e_QU_comparison_3, k_QU_comparison_3, e_QU_comparison_4, k_QU_comparison_4, e_QU_comparison_5, k_QU_comparison_5, e_QU_comparison_6, k_QU_comparison_6, rr, sh, Nat.reduceLT, Nat.reduceMul, Int.reduceToNat, Int.reduceGT, Int.reduceGE, Int.reduceNe, true_and, and_true, true_or, or_true, false_or, or_false, and_self, or_self, if_true, if_false, reduceIte, not_true_eq_false, not_false_eq_true, Int.reduceEq, Int.reduceNe, Int.reduceLT, Int.reduceLE, Int.reduceAdd, Int.reduceSub, Int.reduceMul, Int.reduceNeg, Nat.reduceAdd, Nat.reduceLeDiff, Nat.reduceEqDiff, ne_eq, List.length_cons, List.length_nil, Nat.reduceSub, q_codeC hT hC3 hl (c := 22) (by decide)]
          exact this
      · obtain ⟨outB, hSB, eB, lB⟩ := hB _ _ _ z (-24) (Or.inr (Or.inr ⟨c, rfl⟩))
        simp only [e_QU_comparison_1, k_QU_comparison_1, e_QU_comparison_2, k_QU_comparison_2, rr, sh, Nat.reduceLT, Nat.reduceMul, Int.reduceToNat, Int.reduceGT, Int.reduceGE, Int.reduceNe, true_and, and_true, true_or, or_true, false_or, or_false, and_self, or_self, if_true, if_false, reduceIte, not_true_eq_false, not_false_eq_true, Int.reduceEq, Int.reduceNe, Int.reduceLT, Int.reduceLE, Int.reduceAdd, Int.reduceSub, Int.reduceMul, Int.reduceNeg, Nat.reduceAdd, Nat.reduceLeDiff, Nat.reduceEqDiff, ne_eq, List.length_cons, List.length_nil, Nat.reduceSub, x_next hT hCs, c, x_sign hT hm c]
        refine hSB (d + 7) _ _ (c0 ++ cs1) (by omega) (ptr_qc hP G5) h5 (fun kk pl y H3 F3 q6 q7 u => ?_) (fun a3 j3 cs2 y H3 F3 hC3 => ?_)
        · simp only [e_QU_comparison_3, k_QU_comparison_3, e_QU_comparison_4, k_QU_comparison_4, e_QU_comparison_5, k_QU_comparison_5, e_QU_comparison_6, k_QU_comparison_6, rr, sh, Nat.reduceLT, Nat.reduceMul, Int.reduceToNat, Int.reduceGT, Int.reduceGE, Int.reduceNe, true_and, and_true, true_or, or_true, false_or, or_false, and_self, or_self, if_true, if_false, reduceIte, not_true_eq_false, not_false_eq_true, Int.reduceEq, Int.reduceNe, Int.reduceLT, Int.reduceLE, Int.reduceAdd, Int.reduceSub, Int.reduceMul, Int.reduceNeg, Nat.reduceAdd, Nat.reduceLeDiff, Nat.reduceEqDiff, ne_eq, List.length_cons, List.length_nil, Nat.reduceSub]
          refine c_codeE (d := d + 6) (by decide) (e381 e0 (G5.tr F3)) u (fun H4 G4 e4 u4 => ?_)
          have := he kk pl (by rw [eB, y]; try rfl) H4 ((G5.tr F3).tr G4) (by rw [e4]; exact q6) (by rw [e4]; exact q7) u4
          exact this
        · have hl : (c0 ++ cs1 ++ cs2).length + 1 ≤ a3 := by
            have := lB _ _ _ y
            rw [List.length_append, List.length_append]
            omega
          have ex : c0 ++ cs1 ++ cs2 ++ [-24] = c0 ++ (cs1 ++ (cs2 ++ [-24])) := by simp only [List.append_assoc]
          have hp := hC3.push hl (e := -24)
          rw [ex] at hp
          have := hk _ _ _ (by rw [eB, y]; try rfl) _ ((G5.tr F3).tr push_fx) hp
          simp only [e_QU_comparison_3, k_QU_comparison_3, e_QU_comparison_4, k_QU_comparison_4, e_QU_comparison_5, k_QU_comparison_5, e_QU_comparison_6, k_QU_comparison_6, rr, sh, Nat.reduceLT, Nat.reduceMul, Int.reduceToNat, Int.reduceGT, Int.reduceGE, Int.reduceNe, true_and, and_true, true_or, or_true, false_or, or_false, and_self, or_self, if_true, if_false, reduceIte, not_true_eq_false, not_false_eq_true, Int.reduceEq, Int.reduceNe, Int.reduceLT, Int.reduceLE, Int.reduceAdd, Int.reduceSub, Int.reduceMul, Int.reduceNeg, Nat.reduceAdd, Nat.reduceLeDiff, Nat.reduceEqDiff, ne_eq, List.length_cons, List.length_nil, Nat.reduceSub, q_codeC hT hC3 hl (c := 23) (by decide)]
          exact this
    · have n1 : ¬ bz V a2 = 60 := fun z => c (Or.inl z)
      have n2 : ¬ bz V a2 = 62 := fun z => c (Or.inr (Or.inl z))
      have n3 : ¬ bz V a2 = 61 := fun z => c (Or.inr (Or.inr z))
      have := he 1 a2 (hC _ _ _ z c) _ (F.tr fx_s2) fl_6 hs_same (u_f hCs.u0)
      simp only [e_QU_comparison_1, k_QU_comparison_1, rr, sh, Nat.reduceLT, Nat.reduceMul, Int.reduceToNat, Int.reduceGT, Int.reduceGE, Int.reduceNe, true_and, and_true, true_or, or_true, false_or, or_false, and_self, or_self, if_true, if_false, reduceIte, not_true_eq_false, not_false_eq_true, Int.reduceEq, Int.reduceNe, Int.reduceLT, Int.reduceLE, Int.reduceAdd, Int.reduceSub, Int.reduceMul, Int.reduceNeg, Nat.reduceAdd, Nat.reduceLeDiff, Nat.reduceEqDiff, ne_eq, List.length_cons, List.length_nil, Nat.reduceSub, x_next hT hCs, n1, n2, n3, x_failH]
      exact this
end QD1
