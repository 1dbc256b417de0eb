/-! QUESTIONS: the class's facts, tests -/
section QE1
variable {V : Hp}
theorem c_fact (hT : TapeR V) {a o k : Nat} {j : Int} {outN outT outC out : QO} (hsk : skE V a = a)
    (h9 : wrI V a j QW = 9 → out = .ok (skE V (enE V a), (enE V a : Int), [-10]))
    (h8N : wrI V a j QW = 8 → ¬ o < 6 → out = .error (4, (a : Int)))
    (h8 : wrI V a j QW = 8 → o < 6 → CQ V QU_fact (k + 5) (skE V (enE V a)) (enE V a) (o + 1) outN ∧ out = quF (fun c => c ++ [-9]) outN ∧ ∀ a' j' cs, outN = .ok (a', j', cs) → a + 1 + cs.length ≤ a')
    (hTN : ¬ wrI V a j QW = 9 → ¬ wrI V a j QW = 8 → bz V a = 91 → ¬ o < 6 → out = .error (4, (a : Int)))
    (hTT : ¬ wrI V a j QW = 9 → ¬ wrI V a j QW = 8 → bz V a = 91 → o < 6 → CQ V QU_test (k + 5) (skE V (a + 1)) j (o + 1) outT ∧ out = quS V 93 (fun c => c) outT)
    (hC : ¬ wrI V a j QW = 9 → ¬ wrI V a j QW = 8 → ¬ bz V a = 91 → CQ V QU_comparison (k + 5) a j o out) : CQ V QU_fact (k + 8) a j o out := by
  intro D H Q c0 hD hP h he hk
  obtain ⟨d, rfl⟩ := ex_d (k := 8) (D := D) (by omega)
  have h1 := h.mv
  have F1 : Fx sQC H (hs H 2 2 a) := fx_qc (Fx.rf.hs (c := 2) (j := 2) rfl)
  have hn := h1.1.2.2.2.2.2
  have e0 : H 38 1 = 39 := h.2.2.2.2
  have l0 := h.2.2.2.1
  have h2 := h1.pass
  have FP : Fx sQC H (hs (hs (hs H 2 2 a) 2 2 (enE V a)) 2 3 (enE V a)) := fx_ps
  by_cases w9 : wrI V a j QW = 9
  · have lt := wr_gt hT hn hsk w9 (by decide)
    have hl : c0.length + 1 ≤ skE V (enE V a) := Nat.le_trans (Nat.succ_le_succ l0) (Nat.le_trans lt (skE_rng (enE_rng hn).2.1).1)
    have := hk _ _ _ (h9 w9) _ (FP.tr push_fx) (h2.push hl)
    simp only [en_QU_fact, e_QU_fact_0, k_QU_fact_0, rr, sh, Nat.reduceLT, Nat.reduceMul, Int.reduceToNat, Int.reduceGT, Int.reduceGE, Int.reduceNe, true_and, and_true, true_or, or_true, false_or, or_false, and_self, or_self, if_true, if_false, reduceIte, not_true_eq_false, not_false_eq_true, Int.reduceEq, Int.reduceNe, Int.reduceLT, Int.reduceLE, Int.reduceAdd, Int.reduceSub, Int.reduceMul, Int.reduceNeg, Nat.reduceAdd, Nat.reduceLeDiff, Nat.reduceEqDiff, ne_eq, List.length_cons, List.length_nil, Nat.reduceSub, x_word hT h, w9, x_pass hT h1, q_codeC hT h2 hl (c := 9) (by decide)]
    exact this
  · by_cases w8 : wrI V a j QW = 8
    · by_cases ho : o < 6
      · obtain ⟨hS, eo, hlen⟩ := h8 w8 ho
        have w1 := wo ho
        rw [en_QU_fact]
        simp only [e_QU_fact_0, k_QU_fact_0, e_QU_fact_1, k_QU_fact_1, e_QU_fact_2, k_QU_fact_2, rr, sh, Nat.reduceLT, Nat.reduceMul, Int.reduceToNat, Int.reduceGT, Int.reduceGE, Int.reduceNe, true_and, and_true, true_or, or_true, false_or, or_false, and_self, or_self, if_true, if_false, reduceIte, not_true_eq_false, not_false_eq_true, Int.reduceEq, Int.reduceNe, Int.reduceLT, Int.reduceLE, Int.reduceAdd, Int.reduceSub, Int.reduceMul, Int.reduceNeg, Nat.reduceAdd, Nat.reduceLeDiff, Nat.reduceEqDiff, ne_eq, List.length_cons, List.length_nil, Nat.reduceSub, x_word hT h, w8, q_mayY ho, x_pass hT h1, w1]
        refine hS (d + 7) _ _ c0 (by clear w1; omega) (ptr_qc hP FP) h2 (fun kk pl z H' F q6 q7 u => ?_) (fun a2 j2 cs z H' F hCs => ?_)
        · simp only [rr, sh, Nat.reduceLT, Nat.reduceMul, Int.reduceToNat, Int.reduceGT, Int.reduceGE, Int.reduceNe, true_and, and_true, true_or, or_true, false_or, or_false, and_self, or_self, if_true, if_false, reduceIte, not_true_eq_false, not_false_eq_true, Int.reduceEq, Int.reduceNe, Int.reduceLT, Int.reduceLE, Int.reduceAdd, Int.reduceSub, Int.reduceMul, Int.reduceNeg, Nat.reduceAdd, Nat.reduceLeDiff, Nat.reduceEqDiff, ne_eq, List.length_cons, List.length_nil, Nat.reduceSub]
          refine c_codeE (d := d + 6) (by decide) (e381 e0 (FP.tr F)) u (fun H3 G3 e3 u3 => ?_)
          have := he kk pl (by rw [eo, z]; try rfl) H3 ((FP.tr F).tr G3) (by rw [e3]; exact q6) (by rw [e3]; exact q7) u3
          exact this
        · have hl : (c0 ++ cs).length + 1 ≤ a2 := by
            have := hlen _ _ _ z
            rw [List.length_append]
            clear w1
            omega
          have hp := hCs.push hl (e := -9)
          rw [List.append_assoc] at hp
          have := hk _ _ _ (by rw [eo, z]; try rfl) _ ((FP.tr F).tr push_fx) hp
          simp only [rr, sh, Nat.reduceLT, Nat.reduceMul, Int.reduceToNat, Int.reduceGT, Int.reduceGE, Int.reduceNe, true_and, and_true, true_or, or_true, false_or, or_false, and_self, or_self, if_true, if_false, reduceIte, not_true_eq_false, not_false_eq_true, Int.reduceEq, Int.reduceNe, Int.reduceLT, Int.reduceLE, Int.reduceAdd, Int.reduceSub, Int.reduceMul, Int.reduceNeg, Nat.reduceAdd, Nat.reduceLeDiff, Nat.reduceEqDiff, ne_eq, List.length_cons, List.length_nil, Nat.reduceSub, q_codeC hT hCs hl (c := 8) (by decide)]
          exact this
      · have b2 : hs H 2 2 a 2 2 = a := hs_same
        have := he 4 a (h8N w8 ho) _ fx_s2 fl_6 hs_same (u_f h.u0)
        simp only [en_QU_fact, e_QU_fact_0, k_QU_fact_0, e_QU_fact_1, k_QU_fact_1, e_QU_fact_2, k_QU_fact_2, rr, sh, Nat.reduceLT, Nat.reduceMul, Int.reduceToNat, Int.reduceGT, Int.reduceGE, Int.reduceNe, true_and, and_true, true_or, or_true, false_or, or_false, and_self, or_self, if_true, if_false, reduceIte, not_true_eq_false, not_false_eq_true, Int.reduceEq, Int.reduceNe, Int.reduceLT, Int.reduceLE, Int.reduceAdd, Int.reduceSub, Int.reduceMul, Int.reduceNeg, Nat.reduceAdd, Nat.reduceLeDiff, Nat.reduceEqDiff, ne_eq, List.length_cons, List.length_nil, Nat.reduceSub, x_word hT h, w8, q_mayN ho, b2]
        exact this
    · by_cases b91 : bz V a = 91
      · by_cases ho : o < 6
        · obtain ⟨hS, eo⟩ := hTT w9 w8 b91 ho
          have h4 := h1.sign (by rw [b91]; decide)
          have F4 : Fx sQC H (hs (hs H 2 2 a) 2 2 ((a + 1 : Nat) : Int)) := fx_s1
          have w1 := wo ho
          have hx2 : ∀ {Q : AV → Hp → Prop}, CC (d + 7) TP_next [va 2] (hs H 2 2 a) Q = Q (vi (bz V a)) (hs H 2 2 a) := fun {Q} => by rw [x_next (d := d + 6) hT h1.s, x_same h1]
          simp only [en_QU_fact, e_QU_fact_0, k_QU_fact_0, e_QU_fact_1, k_QU_fact_1, e_QU_fact_3, k_QU_fact_3, e_QU_fact_4, k_QU_fact_4, e_QU_fact_5, k_QU_fact_5, rr, sh, Nat.reduceLT, Nat.reduceMul, Int.reduceToNat, Int.reduceGT, Int.reduceGE, Int.reduceNe, true_and, and_true, true_or, or_true, false_or, or_false, and_self, or_self, if_true, if_false, reduceIte, not_true_eq_false, not_false_eq_true, Int.reduceEq, Int.reduceNe, Int.reduceLT, Int.reduceLE, Int.reduceAdd, Int.reduceSub, Int.reduceMul, Int.reduceNeg, Nat.reduceAdd, Nat.reduceLeDiff, Nat.reduceEqDiff, ne_eq, List.length_cons, List.length_nil, Nat.reduceSub, x_word hT h, w9, w8, hx2, b91, q_mayY ho, x_sign hT h1 b91, w1]
          refine hS (d + 7) _ _ c0 (by clear w1; omega) (ptr_qc hP F4) h4 (fun kk pl z H' F q6 q7 u => ?_) (fun a2 j2 cs z H' F hCs => ?_)
          · have := he kk pl (by rw [eo, z]; try rfl) H' (F4.tr F) q6 q7 u
            simp only [e_QU_fact_4, k_QU_fact_4, e_QU_fact_5, k_QU_fact_5, rr, sh, Nat.reduceLT, Nat.reduceMul, Int.reduceToNat, Int.reduceGT, Int.reduceGE, Int.reduceNe, true_and, and_true, true_or, or_true, false_or, or_false, and_self, or_self, if_true, if_false, reduceIte, not_true_eq_false, not_false_eq_true, Int.reduceEq, Int.reduceNe, Int.reduceLT, Int.reduceLE, Int.reduceAdd, Int.reduceSub, Int.reduceMul, Int.reduceNeg, Nat.reduceAdd, Nat.reduceLeDiff, Nat.reduceEqDiff, ne_eq, List.length_cons, List.length_nil, Nat.reduceSub]
            exact this
          · by_cases c : bz V a2 = 93
            · have := hk _ _ _ (by rw [eo, z]; exact if_pos c) _ ((F4.tr F).tr fx_s1) (hCs.mv.sign (by rw [c]; decide))
              simp only [e_QU_fact_4, k_QU_fact_4, e_QU_fact_5, k_QU_fact_5, rr, sh, Nat.reduceLT, Nat.reduceMul, Int.reduceToNat, Int.reduceGT, Int.reduceGE, Int.reduceNe, true_and, and_true, true_or, or_true, false_or, or_false, and_self, or_self, if_true, if_false, reduceIte, not_true_eq_false, not_false_eq_true, Int.reduceEq, Int.reduceNe, Int.reduceLT, Int.reduceLE, Int.reduceAdd, Int.reduceSub, Int.reduceMul, Int.reduceNeg, Nat.reduceAdd, Nat.reduceLeDiff, Nat.reduceEqDiff, ne_eq, List.length_cons, List.length_nil, Nat.reduceSub, x_signY hT hCs c]
              exact this
            · have := he 1 a2 (by rw [eo, z]; exact if_neg c) _ ((F4.tr F).tr fx_s2) fl_6 hs_same (u_f hCs.u0)
              simp only [e_QU_fact_4, k_QU_fact_4, e_QU_fact_5, k_QU_fact_5, rr, sh, Nat.reduceLT, Nat.reduceMul, Int.reduceToNat, Int.reduceGT, Int.reduceGE, Int.reduceNe, true_and, and_true, true_or, or_true, false_or, or_false, and_self, or_self, if_true, if_false, reduceIte, not_true_eq_false, not_false_eq_true, Int.reduceEq, Int.reduceNe, Int.reduceLT, Int.reduceLE, Int.reduceAdd, Int.reduceSub, Int.reduceMul, Int.reduceNeg, Nat.reduceAdd, Nat.reduceLeDiff, Nat.reduceEqDiff, ne_eq, List.length_cons, List.length_nil, Nat.reduceSub, x_signN hT hCs c]
              exact this
        · have b2 : hs H 2 2 a 2 2 = a := hs_same
          have hx2 : ∀ {Q : AV → Hp → Prop}, CC (d + 7) TP_next [va 2] (hs H 2 2 a) Q = Q (vi (bz V a)) (hs H 2 2 a) := fun {Q} => by rw [x_next (d := d + 6) hT h1.s, x_same h1]
          have := he 4 a (hTN w9 w8 b91 ho) _ fx_s2 fl_6 hs_same (u_f h.u0)
          simp only [en_QU_fact, e_QU_fact_0, k_QU_fact_0, e_QU_fact_1, k_QU_fact_1, e_QU_fact_3, k_QU_fact_3, e_QU_fact_4, k_QU_fact_4, e_QU_fact_5, k_QU_fact_5, rr, sh, Nat.reduceLT, Nat.reduceMul, Int.reduceToNat, Int.reduceGT, Int.reduceGE, Int.reduceNe, true_and, and_true, true_or, or_true, false_or, or_false, and_self, or_self, if_true, if_false, reduceIte, not_true_eq_false, not_false_eq_true, Int.reduceEq, Int.reduceNe, Int.reduceLT, Int.reduceLE, Int.reduceAdd, Int.reduceSub, Int.reduceMul, Int.reduceNeg, Nat.reduceAdd, Nat.reduceLeDiff, Nat.reduceEqDiff, ne_eq, List.length_cons, List.length_nil, Nat.reduceSub, x_word hT h, w9, w8, hx2, b91, q_mayN ho, b2]
          exact this
      · have hx2 : ∀ {Q : AV → Hp → Prop}, CC (d + 7) TP_next [va 2] (hs H 2 2 a) Q = Q (vi (bz V a)) (hs H 2 2 a) := fun {Q} => by rw [x_next (d := d + 6) hT h1.s, x_same h1]
        simp only [en_QU_fact, e_QU_fact_0, k_QU_fact_0, e_QU_fact_1, k_QU_fact_1, e_QU_fact_3, k_QU_fact_3, e_QU_fact_6, k_QU_fact_6, rr, sh, Nat.reduceLT, Nat.reduceMul, Int.reduceToNat, Int.reduceGT, Int.reduceGE, Int.reduceNe, true_and, and_true, true_or, or_true, false_or, or_false, and_self, or_self, if_true, if_false, reduceIte, not_true_eq_false, not_false_eq_true, Int.reduceEq, Int.reduceNe, Int.reduceLT, Int.reduceLE, Int.reduceAdd, Int.reduceSub, Int.reduceMul, Int.reduceNeg, Nat.reduceAdd, Nat.reduceLeDiff, Nat.reduceEqDiff, ne_eq, List.length_cons, List.length_nil, Nat.reduceSub, x_word hT h, w9, w8, hx2, b91]
        refine hC w9 w8 b91 (d + 7) _ _ c0 (by omega) (ptr_qc hP F1) h1.s (fun kk pl z H' F q6 q7 u => ?_) (fun a2 j2 cs z H' F hCs => ?_)
        · simp only [rr, sh, Nat.reduceLT, Nat.reduceMul, Int.reduceToNat, Int.reduceGT, Int.reduceGE, Int.reduceNe, true_and, and_true, true_or, or_true, false_or, or_false, and_self, or_self, if_true, if_false, reduceIte, not_true_eq_false, not_false_eq_true, Int.reduceEq, Int.reduceNe, Int.reduceLT, Int.reduceLE, Int.reduceAdd, Int.reduceSub, Int.reduceMul, Int.reduceNeg, Nat.reduceAdd, Nat.reduceLeDiff, Nat.reduceEqDiff, ne_eq, List.length_cons, List.length_nil, Nat.reduceSub]
          exact he kk pl z H' (F1.tr F) q6 q7 u
        · simp only [rr, sh, Nat.reduceLT, Nat.reduceMul, Int.reduceToNat, Int.reduceGT, Int.reduceGE, Int.reduceNe, true_and, and_true, true_or, or_true, false_or, or_false, and_self, or_self, if_true, if_false, reduceIte, not_true_eq_false, not_false_eq_true, Int.reduceEq, Int.reduceNe, Int.reduceLT, Int.reduceLE, Int.reduceAdd, Int.reduceSub, Int.reduceMul, Int.reduceNeg, Nat.reduceAdd, Nat.reduceLeDiff, Nat.reduceEqDiff, ne_eq, List.length_cons, List.length_nil, Nat.reduceSub]
          exact hk _ _ _ z H' (F1.tr F) hCs
/-- both: from its loop's head on, cs told so far -/
def CLboth (V : Hp) (k a : Nat) (j : Int) (o : Nat) (cs : List Int) (out : QO) : Prop := ∀ (d : Nat) (H : Hp) (Q : AV → Hp → Prop) (c0 : List Int) (i : Nat), k ≤ d → i ≤ a → Ptr H → CQs V H a j (c0 ++ cs) →
  (∀ kk pl, out = .error (kk, pl) → ∀ H', Fx sQC H H' → H' 2 6 = kk → H' 2 7 = pl → 0 ≤ H' 38 2 → Q (vi 0) H') →
  (∀ a' j' cs', out = .ok (a', j', cs') → ∀ H', Fx sQC H H' → CQs V H' a' j' (c0 ++ cs') → Q (vi 1) H') → R d QU_both (blk QU_both 2) [va 38, va 2, vi o, vi i] [] H Q
theorem CLboth.out (hT : TapeR V) {a o k : Nat} {j : Int} {cs : List Int} (h1 : ¬ wrI V a j QW = 7) : CLboth V (k + 8) a j o cs (.ok (a, j, cs)) := by
  intro D H Q c0 i hD hi hP h he hk
  obtain ⟨d, rfl⟩ := ex_d (k := 8) (D := D) (by omega)
  rw [e_QU_both_2]
  by_cases c : i < 1600
  · have c' : ¬ (1600 : Int) ≤ (i : Int) := il_n c
    have hm := h.mv
    have := hk _ _ _ rfl _ (fx_qc (Fx.rf.hs (c := 2) (j := 2) rfl)) hm.s
    simp only [k_QU_both_2, e_QU_both_4, k_QU_both_4, rr, sh, Nat.reduceLT, Nat.reduceMul, Int.reduceToNat, Int.reduceGT, Int.reduceGE, Int.reduceNe, true_and, and_true, true_or, or_true, false_or, or_false, and_self, or_self, if_true, if_false, reduceIte, not_true_eq_false, not_false_eq_true, Int.reduceEq, Int.reduceNe, Int.reduceLT, Int.reduceLE, Int.reduceAdd, Int.reduceSub, Int.reduceMul, Int.reduceNeg, Nat.reduceAdd, Nat.reduceLeDiff, Nat.reduceEqDiff, ne_eq, List.length_cons, List.length_nil, Nat.reduceSub, c', x_word hT h, h1]
    exact this
  · have c' : (1600 : Int) ≤ (i : Int) := il_y (Nat.not_lt.mp c)
    have := hk _ _ _ rfl _ Fx.rf h
    simp only [k_QU_both_2, e_QU_both_4, k_QU_both_4, rr, sh, Nat.reduceLT, Nat.reduceMul, Int.reduceToNat, Int.reduceGT, Int.reduceGE, Int.reduceNe, true_and, and_true, true_or, or_true, false_or, or_false, and_self, or_self, if_true, if_false, reduceIte, not_true_eq_false, not_false_eq_true, Int.reduceEq, Int.reduceNe, Int.reduceLT, Int.reduceLE, Int.reduceAdd, Int.reduceSub, Int.reduceMul, Int.reduceNeg, Nat.reduceAdd, Nat.reduceLeDiff, Nat.reduceEqDiff, ne_eq, List.length_cons, List.length_nil, Nat.reduceSub, c']
    exact this
theorem CLboth.go (hT : TapeR V) {a o k : Nat} {j : Int} {cs : List Int} {outp out : QO} (hsk : skE V a = a) (hb : wrI V a j QW = 7) (hlen : ∀ a' j' cs', outp = .ok (a', j', cs') → skE V (enE V a) < a' ∧ skE V (enE V a) + cs'.length ≤ a') (hS : CQ V QU_fact (k + 5) (skE V (enE V a)) (enE V a) o outp)
    (hE : ∀ x, outp = .error x → out = .error x) (hG : ∀ a' j' cs', outp = .ok (a', j', cs') → CLboth V (k + 8) a' j' o (cs ++ (cs' ++ [-8])) out) : CLboth V (k + 8) a j o cs out := by
  intro D H Q c0 i hD hi hP h he hk
  obtain ⟨d, rfl⟩ := ex_d (k := 8) (D := D) (by omega)
  have hm := h.mv
  have hn := hm.1.2.2.2.2.2
  have lte := wr_gt hT hn hsk hb (by decide)
  have lt : a < tpN V := Nat.lt_of_lt_of_le lte (enE_rng hn).2.1
  have i16 : i < 1600 := Nat.lt_of_le_of_lt hi (Nat.lt_of_lt_of_le lt (tpN_le hT))
  have c' : ¬ (1600 : Int) ≤ (i : Int) := il_n i16
  have kw := w32_s (n := i) (Nat.lt_trans i16 (by decide))
  have h2 := hm.pass
  have F : Fx sQC H (hs (hs (hs H 2 2 a) 2 2 (enE V a)) 2 3 (enE V a)) := fx_ps
  have ls := h.2.2.2.1
  have sk := (skE_rng (enE_rng hn).2.1).1
  rw [e_QU_both_2]
  simp only [k_QU_both_2, rr, sh, Nat.reduceLT, Nat.reduceMul, Int.reduceToNat, Int.reduceGT, Int.reduceGE, Int.reduceNe, true_and, and_true, true_or, or_true, false_or, or_false, and_self, or_self, if_true, if_false, reduceIte, not_true_eq_false, not_false_eq_true, Int.reduceEq, Int.reduceNe, Int.reduceLT, Int.reduceLE, Int.reduceAdd, Int.reduceSub, Int.reduceMul, Int.reduceNeg, Nat.reduceAdd, Nat.reduceLeDiff, Nat.reduceEqDiff, ne_eq, List.length_cons, List.length_nil, Nat.reduceSub, c', x_word hT h, hb, x_pass hT hm]
  refine hS (d + 7) _ _ (c0 ++ cs) (by clear kw; omega) (ptr_qc hP F) h2 (fun kk pl z H' F2 q6 q7 u => ?_) (fun a2 j2 cs2 z H' F2 hC => ?_)
  · have := he kk pl (hE _ z) H' (F.tr F2) q6 q7 u
    simp only [rr, sh, Nat.reduceLT, Nat.reduceMul, Int.reduceToNat, Int.reduceGT, Int.reduceGE, Int.reduceNe, true_and, and_true, true_or, or_true, false_or, or_false, and_self, or_self, if_true, if_false, reduceIte, not_true_eq_false, not_false_eq_true, Int.reduceEq, Int.reduceNe, Int.reduceLT, Int.reduceLE, Int.reduceAdd, Int.reduceSub, Int.reduceMul, Int.reduceNeg, Nat.reduceAdd, Nat.reduceLeDiff, Nat.reduceEqDiff, ne_eq, List.length_cons, List.length_nil, Nat.reduceSub]
    exact this
  · obtain ⟨l1, l2⟩ := hlen _ _ _ z
    have hl : (c0 ++ cs ++ cs2).length + 1 ≤ a2 := by
      rw [List.length_append]
      clear kw
      omega
    have ex : ∀ e : Int, c0 ++ cs ++ cs2 ++ [e] = c0 ++ (cs ++ (cs2 ++ [e])) := fun e => by simp only [List.append_assoc]
    have hp := hC.push hl (e := -8)
    have := hG _ _ _ z (d + 8) _ Q c0 (i + 1) (by clear kw; omega) (by clear kw; omega) (ptr_qc hP ((F.tr F2).tr push_fx)) (by rw [← ex]; exact hp) (fun kk pl y H3 F3 => he kk pl y H3 (((F.tr F2).tr push_fx).tr F3)) (fun a3 j3 cs3 y H3 F3 => hk a3 j3 cs3 y H3 (((F.tr F2).tr push_fx).tr F3))
    simp only [e_QU_both_3, k_QU_both_3, rr, sh, Nat.reduceLT, Nat.reduceMul, Int.reduceToNat, Int.reduceGT, Int.reduceGE, Int.reduceNe, true_and, and_true, true_or, or_true, false_or, or_false, and_self, or_self, if_true, if_false, reduceIte, not_true_eq_false, not_false_eq_true, Int.reduceEq, Int.reduceNe, Int.reduceLT, Int.reduceLE, Int.reduceAdd, Int.reduceSub, Int.reduceMul, Int.reduceNeg, Nat.reduceAdd, Nat.reduceLeDiff, Nat.reduceEqDiff, ne_eq, List.length_cons, List.length_nil, Nat.reduceSub, q_codeC hT hC hl (c := 7) (by decide), kw]
    exact this
theorem c_both (hT : TapeR V) {a o k : Nat} {j : Int} {outp out : QO} (hS : CQ V QU_fact (k + 5) a j o outp) (hE : ∀ x, outp = .error x → out = .error x) (hG : ∀ a' j' cs', outp = .ok (a', j', cs') → CLboth V (k + 8) a' j' o cs' out) : CQ V QU_both (k + 8) a j o out := by
  intro D H Q c0 hD hP h he hk
  obtain ⟨d, rfl⟩ := ex_d (k := 8) (D := D) (by omega)
  simp only [en_QU_both, e_QU_both_0, k_QU_both_0, rr, sh, Nat.reduceLT, Nat.reduceMul, Int.reduceToNat, Int.reduceGT, Int.reduceGE, Int.reduceNe, true_and, and_true, true_or, or_true, false_or, or_false, and_self, or_self, if_true, if_false, reduceIte, not_true_eq_false, not_false_eq_true, Int.reduceEq, Int.reduceNe, Int.reduceLT, Int.reduceLE, Int.reduceAdd, Int.reduceSub, Int.reduceMul, Int.reduceNeg, Nat.reduceAdd, Nat.reduceLeDiff, Nat.reduceEqDiff, ne_eq, List.length_cons, List.length_nil, Nat.reduceSub]
  refine hS (d + 7) _ _ c0 (by omega) hP h (fun kk pl z H' F2 q6 q7 u => ?_) (fun a2 j2 cs2 z H' F2 hC => ?_)
  · have := he kk pl (hE _ z) H' F2 q6 q7 u
    simp only [rr, sh, Nat.reduceLT, Nat.reduceMul, Int.reduceToNat, Int.reduceGT, Int.reduceGE, Int.reduceNe, true_and, and_true, true_or, or_true, false_or, or_false, and_self, or_self, if_true, if_false, reduceIte, not_true_eq_false, not_false_eq_true, Int.reduceEq, Int.reduceNe, Int.reduceLT, Int.reduceLE, Int.reduceAdd, Int.reduceSub, Int.reduceMul, Int.reduceNeg, Nat.reduceAdd, Nat.reduceLeDiff, Nat.reduceEqDiff, ne_eq, List.length_cons, List.length_nil, Nat.reduceSub]
    exact this
  · have := hG _ _ _ z (d + 8) _ Q c0 0 (by omega) (Nat.zero_le _) (ptr_qc hP F2) hC (fun kk pl y H3 F3 => he kk pl y H3 (F2.tr F3)) (fun a3 j3 cs3 y H3 F3 => hk a3 j3 cs3 y H3 (F2.tr F3))
    simp only [e_QU_both_1, k_QU_both_1, rr, sh, Nat.reduceLT, Nat.reduceMul, Int.reduceToNat, Int.reduceGT, Int.reduceGE, Int.reduceNe, true_and, and_true, true_or, or_true, false_or, or_false, and_self, or_self, if_true, if_false, reduceIte, not_true_eq_false, not_false_eq_true, Int.reduceEq, Int.reduceNe, Int.reduceLT, Int.reduceLE, Int.reduceAdd, Int.reduceSub, Int.reduceMul, Int.reduceNeg, Nat.reduceAdd, Nat.reduceLeDiff, Nat.reduceEqDiff, ne_eq, List.length_cons, List.length_nil, Nat.reduceSub]
    exact this
/-- test: from its loop's head on, cs told so far -/
def CLtest (V : Hp) (k a : Nat) (j : Int) (o : Nat) (cs : List Int) (out : QO) : Prop := ∀ (d : Nat) (H : Hp) (Q : AV → Hp → Prop) (c0 : List Int) (i : Nat), k ≤ d → i ≤ a → Ptr H → CQs V H a j (c0 ++ cs) →
  (∀ kk pl, out = .error (kk, pl) → ∀ H', Fx sQC H H' → H' 2 6 = kk → H' 2 7 = pl → 0 ≤ H' 38 2 → Q (vi 0) H') →
  (∀ a' j' cs', out = .ok (a', j', cs') → ∀ H', Fx sQC H H' → CQs V H' a' j' (c0 ++ cs') → Q (vi 1) H') → R d QU_test (blk QU_test 2) [va 38, va 2, vi o, vi i] [] H Q
theorem CLtest.out (hT : TapeR V) {a o k : Nat} {j : Int} {cs : List Int} (h1 : ¬ wrI V a j QW = 6) : CLtest V (k + 8) a j o cs (.ok (a, j, cs)) := by
  intro D H Q c0 i hD hi hP h he hk
  obtain ⟨d, rfl⟩ := ex_d (k := 8) (D := D) (by omega)
  rw [e_QU_test_2]
  by_cases c : i < 1600
  · have c' : ¬ (1600 : Int) ≤ (i : Int) := il_n c
    have hm := h.mv
    have := hk _ _ _ rfl _ (fx_qc (Fx.rf.hs (c := 2) (j := 2) rfl)) hm.s
    simp only [k_QU_test_2, e_QU_test_4, k_QU_test_4, rr, sh, Nat.reduceLT, Nat.reduceMul, Int.reduceToNat, Int.reduceGT, Int.reduceGE, Int.reduceNe, true_and, and_true, true_or, or_true, false_or, or_false, and_self, or_self, if_true, if_false, reduceIte, not_true_eq_false, not_false_eq_true, Int.reduceEq, Int.reduceNe, Int.reduceLT, Int.reduceLE, Int.reduceAdd, Int.reduceSub, Int.reduceMul, Int.reduceNeg, Nat.reduceAdd, Nat.reduceLeDiff, Nat.reduceEqDiff, ne_eq, List.length_cons, List.length_nil, Nat.reduceSub, c', x_word hT h, h1]
    exact this
  · have c' : (1600 : Int) ≤ (i : Int) := il_y (Nat.not_lt.mp c)
    have := hk _ _ _ rfl _ Fx.rf h
    simp only [k_QU_test_2, e_QU_test_4, k_QU_test_4, rr, sh, Nat.reduceLT, Nat.reduceMul, Int.reduceToNat, Int.reduceGT, Int.reduceGE, Int.reduceNe, true_and, and_true, true_or, or_true, false_or, or_false, and_self, or_self, if_true, if_false, reduceIte, not_true_eq_false, not_false_eq_true, Int.reduceEq, Int.reduceNe, Int.reduceLT, Int.reduceLE, Int.reduceAdd, Int.reduceSub, Int.reduceMul, Int.reduceNeg, Nat.reduceAdd, Nat.reduceLeDiff, Nat.reduceEqDiff, ne_eq, List.length_cons, List.length_nil, Nat.reduceSub, c']
    exact this
theorem CLtest.go (hT : TapeR V) {a o k : Nat} {j : Int} {cs : List Int} {outp out : QO} (hsk : skE V a = a) (hb : wrI V a j QW = 6) (hlen : ∀ a' j' cs', outp = .ok (a', j', cs') → skE V (enE V a) < a' ∧ skE V (enE V a) + cs'.length ≤ a') (hS : CQ V QU_both (k + 5) (skE V (enE V a)) (enE V a) o outp)
    (hE : ∀ x, outp = .error x → out = .error x) (hG : ∀ a' j' cs', outp = .ok (a', j', cs') → CLtest V (k + 8) a' j' o (cs ++ (cs' ++ [-7])) out) : CLtest V (k + 8) a j o cs out := by
  intro D H Q c0 i hD hi hP h he hk
  obtain ⟨d, rfl⟩ := ex_d (k := 8) (D := D) (by omega)
  have hm := h.mv
  have hn := hm.1.2.2.2.2.2
  have lte := wr_gt hT hn hsk hb (by decide)
  have lt : a < tpN V := Nat.lt_of_lt_of_le lte (enE_rng hn).2.1
  have i16 : i < 1600 := Nat.lt_of_le_of_lt hi (Nat.lt_of_lt_of_le lt (tpN_le hT))
  have c' : ¬ (1600 : Int) ≤ (i : Int) := il_n i16
  have kw := w32_s (n := i) (Nat.lt_trans i16 (by decide))
  have h2 := hm.pass
  have F : Fx sQC H (hs (hs (hs H 2 2 a) 2 2 (enE V a)) 2 3 (enE V a)) := fx_ps
  have ls := h.2.2.2.1
  have sk := (skE_rng (enE_rng hn).2.1).1
  rw [e_QU_test_2]
  simp only [k_QU_test_2, rr, sh, Nat.reduceLT, Nat.reduceMul, Int.reduceToNat, Int.reduceGT, Int.reduceGE, Int.reduceNe, true_and, and_true, true_or, or_true, false_or, or_false, and_self, or_self, if_true, if_false, reduceIte, not_true_eq_false, not_false_eq_true, Int.reduceEq, Int.reduceNe, Int.reduceLT, Int.reduceLE, Int.reduceAdd, Int.reduceSub, Int.reduceMul, Int.reduceNeg, Nat.reduceAdd, Nat.reduceLeDiff, Nat.reduceEqDiff, ne_eq, List.length_cons, List.length_nil, Nat.reduceSub, c', x_word hT h, hb, x_pass hT hm]
  refine hS (d + 7) _ _ (c0 ++ cs) (by clear kw; omega) (ptr_qc hP F) h2 (fun kk pl z H' F2 q6 q7 u => ?_) (fun a2 j2 cs2 z H' F2 hC => ?_)
  · have := he kk pl (hE _ z) H' (F.tr F2) q6 q7 u
    simp only [rr, sh, Nat.reduceLT, Nat.reduceMul, Int.reduceToNat, Int.reduceGT, Int.reduceGE, Int.reduceNe, true_and, and_true, true_or, or_true, false_or, or_false, and_self, or_self, if_true, if_false, reduceIte, not_true_eq_false, not_false_eq_true, Int.reduceEq, Int.reduceNe, Int.reduceLT, Int.reduceLE, Int.reduceAdd, Int.reduceSub, Int.reduceMul, Int.reduceNeg, Nat.reduceAdd, Nat.reduceLeDiff, Nat.reduceEqDiff, ne_eq, List.length_cons, List.length_nil, Nat.reduceSub]
    exact this
  · obtain ⟨l1, l2⟩ := hlen _ _ _ z
    have hl : (c0 ++ cs ++ cs2).length + 1 ≤ a2 := by
      rw [List.length_append]
      clear kw
      omega
    have ex : ∀ e : Int, c0 ++ cs ++ cs2 ++ [e] = c0 ++ (cs ++ (cs2 ++ [e])) := fun e => by simp only [List.append_assoc]
    have hp := hC.push hl (e := -7)
    have := hG _ _ _ z (d + 8) _ Q c0 (i + 1) (by clear kw; omega) (by clear kw; omega) (ptr_qc hP ((F.tr F2).tr push_fx)) (by rw [← ex]; exact hp) (fun kk pl y H3 F3 => he kk pl y H3 (((F.tr F2).tr push_fx).tr F3)) (fun a3 j3 cs3 y H3 F3 => hk a3 j3 cs3 y H3 (((F.tr F2).tr push_fx).tr F3))
    simp only [e_QU_test_3, k_QU_test_3, rr, sh, Nat.reduceLT, Nat.reduceMul, Int.reduceToNat, Int.reduceGT, Int.reduceGE, Int.reduceNe, true_and, and_true, true_or, or_true, false_or, or_false, and_self, or_self, if_true, if_false, reduceIte, not_true_eq_false, not_false_eq_true, Int.reduceEq, Int.reduceNe, Int.reduceLT, Int.reduceLE, Int.reduceAdd, Int.reduceSub, Int.reduceMul, Int.reduceNeg, Nat.reduceAdd, Nat.reduceLeDiff, Nat.reduceEqDiff, ne_eq, List.length_cons, List.length_nil, Nat.reduceSub, q_codeC hT hC hl (c := 6) (by decide), kw]
    exact this
theorem c_test (hT : TapeR V) {a o k : Nat} {j : Int} {outp out : QO} (hS : CQ V QU_both (k + 5) a j o outp) (hE : ∀ x, outp = .error x → out = .error x) (hG : ∀ a' j' cs', outp = .ok (a', j', cs') → CLtest V (k + 8) a' j' o cs' out) : CQ V QU_test (k + 8) a j o out := by
  intro D H Q c0 hD hP h he hk
  obtain ⟨d, rfl⟩ := ex_d (k := 8) (D := D) (by omega)
  simp only [en_QU_test, e_QU_test_0, k_QU_test_0, rr, sh, Nat.reduceLT, Nat.reduceMul, Int.reduceToNat, Int.reduceGT, Int.reduceGE, Int.reduceNe, true_and, and_true, true_or, or_true, false_or, or_false, and_self, or_self, if_true, if_false, reduceIte, not_true_eq_false, not_false_eq_true, Int.reduceEq, Int.reduceNe, Int.reduceLT, Int.reduceLE, Int.reduceAdd, Int.reduceSub, Int.reduceMul, Int.reduceNeg, Nat.reduceAdd, Nat.reduceLeDiff, Nat.reduceEqDiff, ne_eq, List.length_cons, List.length_nil, Nat.reduceSub]
  refine hS (d + 7) _ _ c0 (by omega) hP h (fun kk pl z H' F2 q6 q7 u => ?_) (fun a2 j2 cs2 z H' F2 hC => ?_)
  · have := he kk pl (hE _ z) H' F2 q6 q7 u
    simp only [rr, sh, Nat.reduceLT, Nat.reduceMul, Int.reduceToNat, Int.reduceGT, Int.reduceGE, Int.reduceNe, true_and, and_true, true_or, or_true, false_or, or_false, and_self, or_self, if_true, if_false, reduceIte, not_true_eq_false, not_false_eq_true, Int.reduceEq, Int.reduceNe, Int.reduceLT, Int.reduceLE, Int.reduceAdd, Int.reduceSub, Int.reduceMul, Int.reduceNeg, Nat.reduceAdd, Nat.reduceLeDiff, Nat.reduceEqDiff, ne_eq, List.length_cons, List.length_nil, Nat.reduceSub]
    exact this
  · have := hG _ _ _ z (d + 8) _ Q c0 0 (by omega) (Nat.zero_le _) (ptr_qc hP F2) hC (fun kk pl y H3 F3 => he kk pl y H3 (F2.tr F3)) (fun a3 j3 cs3 y H3 F3 => hk a3 j3 cs3 y H3 (F2.tr F3))
    simp only [e_QU_test_1, k_QU_test_1, rr, sh, Nat.reduceLT, Nat.reduceMul, Int.reduceToNat, Int.reduceGT, Int.reduceGE, Int.reduceNe, true_and, and_true, true_or, or_true, false_or, or_false, and_self, or_self, if_true, if_false, reduceIte, not_true_eq_false, not_false_eq_true, Int.reduceEq, Int.reduceNe, Int.reduceLT, Int.reduceLE, Int.reduceAdd, Int.reduceSub, Int.reduceMul, Int.reduceNeg, Nat.reduceAdd, Nat.reduceLeDiff, Nat.reduceEqDiff, ne_eq, List.length_cons, List.length_nil, Nat.reduceSub]
    exact this
end QE1
