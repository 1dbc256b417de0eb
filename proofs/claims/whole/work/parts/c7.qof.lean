/-! QUESTIONS: the class's pieces of a sum (words with parts behind them; products, sums) -/
section QC1
variable {V : Hp}
theorem wr_gt (hT : TapeR V) {a : Nat} {j w : Int} (hn : a ≤ tpN V) (hk : skE V a = a) (hw : wrI V a j QW = w) (h0 : 0 ≤ w) : a < enE V a := by
  have : ltH V a j = true := by
    unfold wrI at hw
    apply Classical.byContradiction
    intro z
    rw [if_neg z] at hw
    omega
  have := ltH_gt hn this
  rw [hk] at this
  exact this
theorem e381 {H H' : Hp} (h : H 38 1 = 39) (F : Fx sQC H H') : H' 38 1 = 39 := (F 38 1 rfl).trans h
/-- swing PART, force PART -/
theorem c_of (hT : TapeR V) {a o k : Nat} {j w : Int} {out : QO} (hsk : skE V a = a) (hw : wrI V a j QW = w) (h3 : w = 13 ∨ w = 14) (ho : o < 6) (hS : CQ V QU_part (k + 5) (skE V (enE V a)) (enE V a) (o + 1) out) (hlen : ∀ a' j' cs, out = .ok (a', j', cs) → skE V (enE V a) + cs.length ≤ a') : CQ V QU_part (k + 8) a j o (quF (fun c => c ++ [-1 - w]) out) := by
  intro D H Q c0 hD hP h he hk
  obtain ⟨d, rfl⟩ := ex_d (k := 8) (D := D) (by omega)
  have h1 := h.mv
  obtain ⟨nd, n40, -⟩ := lt_nd (wr_dg hT hsk hw (by omega))
  have hx : CC (d + 7) TP_wordHere [va 2, va 902] (hs H 2 2 a) = fun Q => Q (vi w) (hs H 2 2 a) := by funext Q; rw [x_word (d := d + 4) hT h1.s, hw, x_same h1]
  have h2 := h1.pass
  have hn := h1.1.2.2.2.2.2
  have lt := wr_gt hT hn hsk hw (by omega)
  have F : Fx sQC H (hs (hs (hs H 2 2 a) 2 2 (enE V a)) 2 3 (enE V a)) := fx_qc (((Fx.rf.hs (c := 2) (j := 2) rfl).hs (c := 2) (j := 2) rfl).hs (c := 2) (j := 3) rfl)
  have w1 := wo ho
  have al : a + 1 ≤ skE V (enE V a) := Nat.le_trans lt (skE_rng (enE_rng hn).2.1).1
  have e0 : H 38 1 = 39 := h.2.2.2.2
  have l0 := h1.2.2.2.2.1
  simp only [en_QU_part, e_QU_part_0, k_QU_part_0, e_QU_part_3, k_QU_part_3, e_QU_part_4, k_QU_part_4, rr, sh, Nat.reduceLT, Nat.reduceMul, Int.reduceToNat, Int.reduceGT, Int.reduceGE, Int.reduceNe, true_and, and_true, true_or, or_true, false_or, or_false, and_self, or_self, if_true, if_false, reduceIte, not_true_eq_false, not_false_eq_true, Int.reduceEq, Int.reduceNe, Int.reduceLT, Int.reduceLE, Int.reduceAdd, Int.reduceSub, Int.reduceMul, Int.reduceNeg, Nat.reduceAdd, Nat.reduceLeDiff, Nat.reduceEqDiff, ne_eq, List.length_cons, List.length_nil, Nat.reduceSub, x_next hT h, n40, q_isDigitC, nd, show bI false = 0 from rfl, hx]
  rcases h3 with rfl | rfl
  all_goals
    simp only [e_QU_part_6, k_QU_part_6, en_QU_partOf, e_QU_partOf_0, k_QU_partOf_0, e_QU_partOf_1, k_QU_partOf_1, rr, sh, Nat.reduceLT, Nat.reduceMul, Int.reduceToNat, Int.reduceGT, Int.reduceGE, Int.reduceNe, true_and, and_true, true_or, or_true, false_or, or_false, and_self, or_self, if_true, if_false, reduceIte, not_true_eq_false, not_false_eq_true, Int.reduceEq, Int.reduceNe, Int.reduceLT, Int.reduceLE, Int.reduceAdd, Int.reduceSub, Int.reduceMul, Int.reduceNeg, Nat.reduceAdd, Nat.reduceLeDiff, Nat.reduceEqDiff, ne_eq, List.length_cons, List.length_nil, Nat.reduceSub, q_mayY ho, x_pass hT h1, w1]
    refine hS (d + 6) _ _ c0 (by omega) (ptr_qc hP F) h2 (fun kk pl z H' F2 q6 q7 u => ?_) (fun a2 j2 cs z H' F2 hC => ?_)
    · simp only [rr, sh, Nat.reduceLT, Nat.reduceMul, Int.reduceToNat, Int.reduceGT, Int.reduceGE, Int.reduceNe, true_and, and_true, true_or, or_true, false_or, or_false, and_self, or_self, if_true, if_false, reduceIte, not_true_eq_false, not_false_eq_true, Int.reduceEq, Int.reduceNe, Int.reduceLT, Int.reduceLE, Int.reduceAdd, Int.reduceSub, Int.reduceMul, Int.reduceNeg, Nat.reduceAdd, Nat.reduceLeDiff, Nat.reduceEqDiff, ne_eq, List.length_cons, List.length_nil, Nat.reduceSub]
      refine c_codeE (d := d + 5) (by decide) (e381 e0 (F.tr F2)) u (fun H3 F3 e3 u3 => ?_)
      exact he kk pl (by unfold quF; rw [z]; try rfl) H3 ((F.tr F2).tr F3) (by rw [e3]; exact q6) (by rw [e3]; exact q7) u3
    · have hl : (c0 ++ cs).length + 1 ≤ a2 := by
        have := hlen _ _ _ z
        rw [List.length_append]
        clear w1
        omega
      have := hk _ _ _ (by unfold quF; rw [z]; try rfl) _ ((F.tr F2).tr push_fx) (by rw [← List.append_assoc]; exact hC.push hl)
      simp only [rr, sh, Nat.reduceLT, Nat.reduceMul, Int.reduceToNat, Int.reduceGT, Int.reduceGE, Int.reduceNe, true_and, and_true, true_or, or_true, false_or, or_false, and_self, or_self, if_true, if_false, reduceIte, not_true_eq_false, not_false_eq_true, Int.reduceEq, Int.reduceNe, Int.reduceLT, Int.reduceLE, Int.reduceAdd, Int.reduceSub, Int.reduceMul, Int.reduceNeg, Nat.reduceAdd, Nat.reduceLeDiff, Nat.reduceEqDiff, ne_eq, List.length_cons, List.length_nil, Nat.reduceSub, q_codeC hT hC hl (c := 13) (by decide), q_codeC hT hC hl (c := 14) (by decide)]
      exact this
theorem c_ofN (hT : TapeR V) {a o k : Nat} {j w : Int} (hsk : skE V a = a) (hw : wrI V a j QW = w) (h3 : w = 13 ∨ w = 14) (ho : ¬ o < 6) : CQ V QU_part (k + 8) a j o (.error (4, (a : Int))) := by
  intro D H Q c0 hD hP h he hk
  obtain ⟨d, rfl⟩ := ex_d (k := 8) (D := D) (by omega)
  have h1 := h.mv
  obtain ⟨nd, n40, -⟩ := lt_nd (wr_dg hT hsk hw (by omega))
  have hx : CC (d + 7) TP_wordHere [va 2, va 902] (hs H 2 2 a) = fun Q => Q (vi w) (hs H 2 2 a) := by funext Q; rw [x_word (d := d + 4) hT h1.s, hw, x_same h1]
  have b2 : hs H 2 2 a 2 2 = a := hs_same
  have := he 4 a rfl _ fx_s2 fl_6 hs_same (u_f h.u0)
  simp only [en_QU_part, e_QU_part_0, k_QU_part_0, e_QU_part_3, k_QU_part_3, e_QU_part_4, k_QU_part_4, rr, sh, Nat.reduceLT, Nat.reduceMul, Int.reduceToNat, Int.reduceGT, Int.reduceGE, Int.reduceNe, true_and, and_true, true_or, or_true, false_or, or_false, and_self, or_self, if_true, if_false, reduceIte, not_true_eq_false, not_false_eq_true, Int.reduceEq, Int.reduceNe, Int.reduceLT, Int.reduceLE, Int.reduceAdd, Int.reduceSub, Int.reduceMul, Int.reduceNeg, Nat.reduceAdd, Nat.reduceLeDiff, Nat.reduceEqDiff, ne_eq, List.length_cons, List.length_nil, Nat.reduceSub, x_next hT h, n40, q_isDigitC, nd, show bI false = 0 from rfl, hx]
  rcases h3 with rfl | rfl
  all_goals
    simp only [e_QU_part_6, k_QU_part_6, en_QU_partOf, e_QU_partOf_0, k_QU_partOf_0, e_QU_partOf_1, k_QU_partOf_1, rr, sh, Nat.reduceLT, Nat.reduceMul, Int.reduceToNat, Int.reduceGT, Int.reduceGE, Int.reduceNe, true_and, and_true, true_or, or_true, false_or, or_false, and_self, or_self, if_true, if_false, reduceIte, not_true_eq_false, not_false_eq_true, Int.reduceEq, Int.reduceNe, Int.reduceLT, Int.reduceLE, Int.reduceAdd, Int.reduceSub, Int.reduceMul, Int.reduceNeg, Nat.reduceAdd, Nat.reduceLeDiff, Nat.reduceEqDiff, ne_eq, List.length_cons, List.length_nil, Nat.reduceSub, q_mayN ho, b2]
    exact this
/-- product: from its loop's head on, cs told so far -/
def CLproduct (V : Hp) (k a : Nat) (j : Int) (o : Nat) (cs : List Int) (out : QO) : Prop := ∀ (d : Nat) (H : Hp) (Q : AV → Hp → Prop) (c0 : List Int) (i : Nat) (y : AV), k ≤ d → i ≤ a → (y = vu ∨ ∃ v, y = vi v) → Ptr H → CQs V H a j (c0 ++ cs) →
  (∀ kk pl, out = .error (kk, pl) → ∀ H', Fx sQC H H' → H' 2 6 = kk → H' 2 7 = pl → 0 ≤ H' 38 2 → Q (vi 0) H') →
  (∀ a' j' cs', out = .ok (a', j', cs') → ∀ H', Fx sQC H H' → CQs V H' a' j' (c0 ++ cs') → Q (vi 1) H') → R d QU_product (blk QU_product 2) [va 38, va 2, vi o, vi i, y] [] H Q
theorem CLproduct.out (hT : TapeR V) {a o k : Nat} {j : Int} {cs : List Int} (h1 : ¬ bz V a = 42) (h2 : ¬ bz V a = 47) : CLproduct V (k + 8) a j o cs (.ok (a, j, cs)) := by
  intro D H Q c0 i y hD hi hy hP h he hk
  obtain ⟨d, rfl⟩ := ex_d (k := 8) (D := D) (by omega)
  rw [e_QU_product_2]
  by_cases c : i < 1600
  · have c' : ¬ (1600 : Int) ≤ (i : Int) := il_n c
    have hm := h.mv
    have := hk _ _ _ rfl _ (fx_qc (Fx.rf.hs (c := 2) (j := 2) rfl)) hm.s
    rcases hy with rfl | ⟨v, rfl⟩
    all_goals
      simp only [k_QU_product_2, e_QU_product_8, k_QU_product_8, rr, sh, Nat.reduceLT, Nat.reduceMul, Int.reduceToNat, Int.reduceGT, Int.reduceGE, Int.reduceNe, true_and, and_true, true_or, or_true, false_or, or_false, and_self, or_self, if_true, if_false, reduceIte, not_true_eq_false, not_false_eq_true, Int.reduceEq, Int.reduceNe, Int.reduceLT, Int.reduceLE, Int.reduceAdd, Int.reduceSub, Int.reduceMul, Int.reduceNeg, Nat.reduceAdd, Nat.reduceLeDiff, Nat.reduceEqDiff, ne_eq, List.length_cons, List.length_nil, Nat.reduceSub, c', x_next hT h, h1, x_next hT hm.s, x_same hm, h2]
      exact this
  · have c' : (1600 : Int) ≤ (i : Int) := il_y (Nat.not_lt.mp c)
    have := hk _ _ _ rfl _ Fx.rf h
    rcases hy with rfl | ⟨v, rfl⟩
    all_goals
      simp only [k_QU_product_2, e_QU_product_8, k_QU_product_8, rr, sh, Nat.reduceLT, Nat.reduceMul, Int.reduceToNat, Int.reduceGT, Int.reduceGE, Int.reduceNe, true_and, and_true, true_or, or_true, false_or, or_false, and_self, or_self, if_true, if_false, reduceIte, not_true_eq_false, not_false_eq_true, Int.reduceEq, Int.reduceNe, Int.reduceLT, Int.reduceLE, Int.reduceAdd, Int.reduceSub, Int.reduceMul, Int.reduceNeg, Nat.reduceAdd, Nat.reduceLeDiff, Nat.reduceEqDiff, ne_eq, List.length_cons, List.length_nil, Nat.reduceSub, c']
      exact this
theorem CLproduct.go (hT : TapeR V) {a o k : Nat} {j : Int} {cs : List Int} {s e : Int} {outp out : QO} (hs' : (s = 42 ∧ e = -20) ∨ (s = 47 ∧ e = -21)) (hb : bz V a = s) (hlen : ∀ a' j' cs', outp = .ok (a', j', cs') → skE V (a + 1) < a' ∧ skE V (a + 1) + cs'.length ≤ a') (hS : CQ V QU_part (k + 5) (skE V (a + 1)) j o outp)
    (hE : ∀ x, outp = .error x → out = .error x) (hG : ∀ a' j' cs', outp = .ok (a', j', cs') → CLproduct V (k + 8) a' j' o (cs ++ (cs' ++ [e])) out) : CLproduct V (k + 8) a j o cs out := by
  intro D H Q c0 i y hD hi hy hP h he hk
  obtain ⟨d, rfl⟩ := ex_d (k := 8) (D := D) (by omega)
  have hm := h.mv
  have b0 : 0 ≤ bz V a := by rw [hb]; omega
  have lt := bz_in' (V := V) (k := a) rfl b0
  have i16 : i < 1600 := Nat.lt_of_le_of_lt hi (Nat.lt_of_lt_of_le lt (tpN_le hT))
  have c' : ¬ (1600 : Int) ≤ (i : Int) := il_n i16
  have kw := w32_s (n := i) (Nat.lt_trans i16 (by decide))
  have h2 := hm.sign b0
  have F : Fx sQC H (hs (hs H 2 2 a) 2 2 ((a + 1 : Nat) : Int)) := fx_s1
  have ls := h.2.2.2.1
  have sk := (skE_rng (V := V) (a := a + 1) lt).1
  rw [e_QU_product_2]
  rcases hs' with ⟨rfl, rfl⟩ | ⟨rfl, rfl⟩
  · rcases hy with rfl | ⟨v, rfl⟩
    all_goals
      simp only [k_QU_product_2, e_QU_product_3, k_QU_product_3, rr, sh, Nat.reduceLT, Nat.reduceMul, Int.reduceToNat, Int.reduceGT, Int.reduceGE, Int.reduceNe, true_and, and_true, true_or, or_true, false_or, or_false, and_self, or_self, if_true, if_false, reduceIte, not_true_eq_false, not_false_eq_true, Int.reduceEq, Int.reduceNe, Int.reduceLT, Int.reduceLE, Int.reduceAdd, Int.reduceSub, Int.reduceMul, Int.reduceNeg, Nat.reduceAdd, Nat.reduceLeDiff, Nat.reduceEqDiff, ne_eq, List.length_cons, List.length_nil, Nat.reduceSub, c', x_next hT h, x_next hT hm.s, x_same hm, hb, x_sign hT hm hb]
      refine hS (d + 7) _ _ (c0 ++ cs) (by clear kw; omega) (ptr_qc hP F) h2 (fun kk pl z H' F2 q6 q7 u => ?_) (fun a2 j2 cs2 z H' F2 hC => ?_)
      · have := he kk pl (hE _ z) H' (F.tr F2) q6 q7 u
        simp only [e_QU_product_4, k_QU_product_4, rr, sh, Nat.reduceLT, Nat.reduceMul, Int.reduceToNat, Int.reduceGT, Int.reduceGE, Int.reduceNe, true_and, and_true, true_or, or_true, false_or, or_false, and_self, or_self, if_true, if_false, reduceIte, not_true_eq_false, not_false_eq_true, Int.reduceEq, Int.reduceNe, Int.reduceLT, Int.reduceLE, Int.reduceAdd, Int.reduceSub, Int.reduceMul, Int.reduceNeg, Nat.reduceAdd, Nat.reduceLeDiff, Nat.reduceEqDiff, ne_eq, List.length_cons, List.length_nil, Nat.reduceSub]
        exact this
      · obtain ⟨l1, l2⟩ := hlen _ _ _ z
        have hl : (c0 ++ cs ++ cs2).length + 1 ≤ a2 := by
          rw [List.length_append]
          clear kw
          omega
        have ex : ∀ e : Int, c0 ++ cs ++ cs2 ++ [e] = c0 ++ (cs ++ (cs2 ++ [e])) := fun e => by simp only [List.append_assoc]
        have hp := hC.push hl (e := -20)
        have := hG _ _ _ z (d + 8) _ Q c0 (i + 1) (vi 42) (by clear kw; omega) (by clear kw; omega) (Or.inr ⟨42, rfl⟩) (ptr_qc hP ((F.tr F2).tr push_fx)) (by rw [← ex]; exact hp) (fun kk pl y H3 F3 => he kk pl y H3 (((F.tr F2).tr push_fx).tr F3)) (fun a3 j3 cs3 y H3 F3 => hk a3 j3 cs3 y H3 (((F.tr F2).tr push_fx).tr F3))
        simp only [e_QU_product_5, k_QU_product_5, e_QU_product_6, k_QU_product_6, e_QU_product_7, k_QU_product_7, rr, sh, Nat.reduceLT, Nat.reduceMul, Int.reduceToNat, Int.reduceGT, Int.reduceGE, Int.reduceNe, true_and, and_true, true_or, or_true, false_or, or_false, and_self, or_self, if_true, if_false, reduceIte, not_true_eq_false, not_false_eq_true, Int.reduceEq, Int.reduceNe, Int.reduceLT, Int.reduceLE, Int.reduceAdd, Int.reduceSub, Int.reduceMul, Int.reduceNeg, Nat.reduceAdd, Nat.reduceLeDiff, Nat.reduceEqDiff, ne_eq, List.length_cons, List.length_nil, Nat.reduceSub, q_codeC hT hC hl (c := 19) (by decide), q_codeC hT hC hl (c := 20) (by decide), kw]
        exact this
  · rcases hy with rfl | ⟨v, rfl⟩
    all_goals
      simp only [k_QU_product_2, e_QU_product_3, k_QU_product_3, rr, sh, Nat.reduceLT, Nat.reduceMul, Int.reduceToNat, Int.reduceGT, Int.reduceGE, Int.reduceNe, true_and, and_true, true_or, or_true, false_or, or_false, and_self, or_self, if_true, if_false, reduceIte, not_true_eq_false, not_false_eq_true, Int.reduceEq, Int.reduceNe, Int.reduceLT, Int.reduceLE, Int.reduceAdd, Int.reduceSub, Int.reduceMul, Int.reduceNeg, Nat.reduceAdd, Nat.reduceLeDiff, Nat.reduceEqDiff, ne_eq, List.length_cons, List.length_nil, Nat.reduceSub, c', x_next hT h, x_next hT hm.s, x_same hm, hb, x_sign hT hm hb]
      refine hS (d + 7) _ _ (c0 ++ cs) (by clear kw; omega) (ptr_qc hP F) h2 (fun kk pl z H' F2 q6 q7 u => ?_) (fun a2 j2 cs2 z H' F2 hC => ?_)
      · have := he kk pl (hE _ z) H' (F.tr F2) q6 q7 u
        simp only [e_QU_product_4, k_QU_product_4, rr, sh, Nat.reduceLT, Nat.reduceMul, Int.reduceToNat, Int.reduceGT, Int.reduceGE, Int.reduceNe, true_and, and_true, true_or, or_true, false_or, or_false, and_self, or_self, if_true, if_false, reduceIte, not_true_eq_false, not_false_eq_true, Int.reduceEq, Int.reduceNe, Int.reduceLT, Int.reduceLE, Int.reduceAdd, Int.reduceSub, Int.reduceMul, Int.reduceNeg, Nat.reduceAdd, Nat.reduceLeDiff, Nat.reduceEqDiff, ne_eq, List.length_cons, List.length_nil, Nat.reduceSub]
        exact this
      · obtain ⟨l1, l2⟩ := hlen _ _ _ z
        have hl : (c0 ++ cs ++ cs2).length + 1 ≤ a2 := by
          rw [List.length_append]
          clear kw
          omega
        have ex : ∀ e : Int, c0 ++ cs ++ cs2 ++ [e] = c0 ++ (cs ++ (cs2 ++ [e])) := fun e => by simp only [List.append_assoc]
        have hp := hC.push hl (e := -21)
        have := hG _ _ _ z (d + 8) _ Q c0 (i + 1) (vi 47) (by clear kw; omega) (by clear kw; omega) (Or.inr ⟨47, rfl⟩) (ptr_qc hP ((F.tr F2).tr push_fx)) (by rw [← ex]; exact hp) (fun kk pl y H3 F3 => he kk pl y H3 (((F.tr F2).tr push_fx).tr F3)) (fun a3 j3 cs3 y H3 F3 => hk a3 j3 cs3 y H3 (((F.tr F2).tr push_fx).tr F3))
        simp only [e_QU_product_5, k_QU_product_5, e_QU_product_6, k_QU_product_6, e_QU_product_7, k_QU_product_7, rr, sh, Nat.reduceLT, Nat.reduceMul, Int.reduceToNat, Int.reduceGT, Int.reduceGE, Int.reduceNe, true_and, and_true, true_or, or_true, false_or, or_false, and_self, or_self, if_true, if_false, reduceIte, not_true_eq_false, not_false_eq_true, Int.reduceEq, Int.reduceNe, Int.reduceLT, Int.reduceLE, Int.reduceAdd, Int.reduceSub, Int.reduceMul, Int.reduceNeg, Nat.reduceAdd, Nat.reduceLeDiff, Nat.reduceEqDiff, ne_eq, List.length_cons, List.length_nil, Nat.reduceSub, q_codeC hT hC hl (c := 19) (by decide), q_codeC hT hC hl (c := 20) (by decide), kw]
        exact this
theorem c_product (hT : TapeR V) {a o k : Nat} {j : Int} {outp out : QO} (hS : CQ V QU_part (k + 5) a j o outp) (hE : ∀ x, outp = .error x → out = .error x) (hG : ∀ a' j' cs', outp = .ok (a', j', cs') → CLproduct V (k + 8) a' j' o cs' out) : CQ V QU_product (k + 8) a j o out := by
  intro D H Q c0 hD hP h he hk
  obtain ⟨d, rfl⟩ := ex_d (k := 8) (D := D) (by omega)
  simp only [en_QU_product, e_QU_product_0, k_QU_product_0, rr, sh, Nat.reduceLT, Nat.reduceMul, Int.reduceToNat, Int.reduceGT, Int.reduceGE, Int.reduceNe, true_and, and_true, true_or, or_true, false_or, or_false, and_self, or_self, if_true, if_false, reduceIte, not_true_eq_false, not_false_eq_true, Int.reduceEq, Int.reduceNe, Int.reduceLT, Int.reduceLE, Int.reduceAdd, Int.reduceSub, Int.reduceMul, Int.reduceNeg, Nat.reduceAdd, Nat.reduceLeDiff, Nat.reduceEqDiff, ne_eq, List.length_cons, List.length_nil, Nat.reduceSub]
  refine hS (d + 7) _ _ c0 (by omega) hP h (fun kk pl z H' F2 q6 q7 u => ?_) (fun a2 j2 cs2 z H' F2 hC => ?_)
  · have := he kk pl (hE _ z) H' F2 q6 q7 u
    simp only [rr, sh, Nat.reduceLT, Nat.reduceMul, Int.reduceToNat, Int.reduceGT, Int.reduceGE, Int.reduceNe, true_and, and_true, true_or, or_true, false_or, or_false, and_self, or_self, if_true, if_false, reduceIte, not_true_eq_false, not_false_eq_true, Int.reduceEq, Int.reduceNe, Int.reduceLT, Int.reduceLE, Int.reduceAdd, Int.reduceSub, Int.reduceMul, Int.reduceNeg, Nat.reduceAdd, Nat.reduceLeDiff, Nat.reduceEqDiff, ne_eq, List.length_cons, List.length_nil, Nat.reduceSub]
    exact this
  · have := hG _ _ _ z (d + 8) _ Q c0 0 vu (by omega) (Nat.zero_le _) (Or.inl rfl) (ptr_qc hP F2) hC (fun kk pl y H3 F3 => he kk pl y H3 (F2.tr F3)) (fun a3 j3 cs3 y H3 F3 => hk a3 j3 cs3 y H3 (F2.tr F3))
    simp only [e_QU_product_1, k_QU_product_1, rr, sh, Nat.reduceLT, Nat.reduceMul, Int.reduceToNat, Int.reduceGT, Int.reduceGE, Int.reduceNe, true_and, and_true, true_or, or_true, false_or, or_false, and_self, or_self, if_true, if_false, reduceIte, not_true_eq_false, not_false_eq_true, Int.reduceEq, Int.reduceNe, Int.reduceLT, Int.reduceLE, Int.reduceAdd, Int.reduceSub, Int.reduceMul, Int.reduceNeg, Nat.reduceAdd, Nat.reduceLeDiff, Nat.reduceEqDiff, ne_eq, List.length_cons, List.length_nil, Nat.reduceSub]
    exact this
/-- sum: from its loop's head on, cs told so far -/
def CLsum (V : Hp) (k a : Nat) (j : Int) (o : Nat) (cs : List Int) (out : QO) : Prop := ∀ (d : Nat) (H : Hp) (Q : AV → Hp → Prop) (c0 : List Int) (i : Nat) (y : AV), k ≤ d → i ≤ a → (y = vu ∨ ∃ v, y = vi v) → Ptr H → CQs V H a j (c0 ++ cs) →
  (∀ kk pl, out = .error (kk, pl) → ∀ H', Fx sQC H H' → H' 2 6 = kk → H' 2 7 = pl → 0 ≤ H' 38 2 → Q (vi 0) H') →
  (∀ a' j' cs', out = .ok (a', j', cs') → ∀ H', Fx sQC H H' → CQs V H' a' j' (c0 ++ cs') → Q (vi 1) H') → R d QU_sum (blk QU_sum 2) [va 38, va 2, vi o, vi i, y] [] H Q
theorem CLsum.out (hT : TapeR V) {a o k : Nat} {j : Int} {cs : List Int} (h1 : ¬ bz V a = 43) (h2 : ¬ bz V a = 45) : CLsum V (k + 8) a j o cs (.ok (a, j, cs)) := by
  intro D H Q c0 i y hD hi hy hP h he hk
  obtain ⟨d, rfl⟩ := ex_d (k := 8) (D := D) (by omega)
  rw [e_QU_sum_2]
  by_cases c : i < 1600
  · have c' : ¬ (1600 : Int) ≤ (i : Int) := il_n c
    have hm := h.mv
    have := hk _ _ _ rfl _ (fx_qc (Fx.rf.hs (c := 2) (j := 2) rfl)) hm.s
    rcases hy with rfl | ⟨v, rfl⟩
    all_goals
      simp only [k_QU_sum_2, e_QU_sum_8, k_QU_sum_8, rr, sh, Nat.reduceLT, Nat.reduceMul, Int.reduceToNat, Int.reduceGT, Int.reduceGE, Int.reduceNe, true_and, and_true, true_or, or_true, false_or, or_false, and_self, or_self, if_true, if_false, reduceIte, not_true_eq_false, not_false_eq_true, Int.reduceEq, Int.reduceNe, Int.reduceLT, Int.reduceLE, Int.reduceAdd, Int.reduceSub, Int.reduceMul, Int.reduceNeg, Nat.reduceAdd, Nat.reduceLeDiff, Nat.reduceEqDiff, ne_eq, List.length_cons, List.length_nil, Nat.reduceSub, c', x_next hT h, h1, x_next hT hm.s, x_same hm, h2]
      exact this
  · have c' : (1600 : Int) ≤ (i : Int) := il_y (Nat.not_lt.mp c)
    have := hk _ _ _ rfl _ Fx.rf h
    rcases hy with rfl | ⟨v, rfl⟩
    all_goals
      simp only [k_QU_sum_2, e_QU_sum_8, k_QU_sum_8, rr, sh, Nat.reduceLT, Nat.reduceMul, Int.reduceToNat, Int.reduceGT, Int.reduceGE, Int.reduceNe, true_and, and_true, true_or, or_true, false_or, or_false, and_self, or_self, if_true, if_false, reduceIte, not_true_eq_false, not_false_eq_true, Int.reduceEq, Int.reduceNe, Int.reduceLT, Int.reduceLE, Int.reduceAdd, Int.reduceSub, Int.reduceMul, Int.reduceNeg, Nat.reduceAdd, Nat.reduceLeDiff, Nat.reduceEqDiff, ne_eq, List.length_cons, List.length_nil, Nat.reduceSub, c']
      exact this
theorem CLsum.go (hT : TapeR V) {a o k : Nat} {j : Int} {cs : List Int} {s e : Int} {outp out : QO} (hs' : (s = 43 ∧ e = -18) ∨ (s = 45 ∧ e = -19)) (hb : bz V a = s) (hlen : ∀ a' j' cs', outp = .ok (a', j', cs') → skE V (a + 1) < a' ∧ skE V (a + 1) + cs'.length ≤ a') (hS : CQ V QU_product (k + 5) (skE V (a + 1)) j o outp)
    (hE : ∀ x, outp = .error x → out = .error x) (hG : ∀ a' j' cs', outp = .ok (a', j', cs') → CLsum V (k + 8) a' j' o (cs ++ (cs' ++ [e])) out) : CLsum V (k + 8) a j o cs out := by
  intro D H Q c0 i y hD hi hy hP h he hk
  obtain ⟨d, rfl⟩ := ex_d (k := 8) (D := D) (by omega)
  have hm := h.mv
  have b0 : 0 ≤ bz V a := by rw [hb]; omega
  have lt := bz_in' (V := V) (k := a) rfl b0
  have i16 : i < 1600 := Nat.lt_of_le_of_lt hi (Nat.lt_of_lt_of_le lt (tpN_le hT))
  have c' : ¬ (1600 : Int) ≤ (i : Int) := il_n i16
  have kw := w32_s (n := i) (Nat.lt_trans i16 (by decide))
  have h2 := hm.sign b0
  have F : Fx sQC H (hs (hs H 2 2 a) 2 2 ((a + 1 : Nat) : Int)) := fx_s1
  have ls := h.2.2.2.1
  have sk := (skE_rng (V := V) (a := a + 1) lt).1
  rw [e_QU_sum_2]
  rcases hs' with ⟨rfl, rfl⟩ | ⟨rfl, rfl⟩
  · rcases hy with rfl | ⟨v, rfl⟩
    all_goals
      simp only [k_QU_sum_2, e_QU_sum_3, k_QU_sum_3, rr, sh, Nat.reduceLT, Nat.reduceMul, Int.reduceToNat, Int.reduceGT, Int.reduceGE, Int.reduceNe, true_and, and_true, true_or, or_true, false_or, or_false, and_self, or_self, if_true, if_false, reduceIte, not_true_eq_false, not_false_eq_true, Int.reduceEq, Int.reduceNe, Int.reduceLT, Int.reduceLE, Int.reduceAdd, Int.reduceSub, Int.reduceMul, Int.reduceNeg, Nat.reduceAdd, Nat.reduceLeDiff, Nat.reduceEqDiff, ne_eq, List.length_cons, List.length_nil, Nat.reduceSub, c', x_next hT h, x_next hT hm.s, x_same hm, hb, x_sign hT hm hb]
      refine hS (d + 7) _ _ (c0 ++ cs) (by clear kw; omega) (ptr_qc hP F) h2 (fun kk pl z H' F2 q6 q7 u => ?_) (fun a2 j2 cs2 z H' F2 hC => ?_)
      · have := he kk pl (hE _ z) H' (F.tr F2) q6 q7 u
        simp only [e_QU_sum_4, k_QU_sum_4, rr, sh, Nat.reduceLT, Nat.reduceMul, Int.reduceToNat, Int.reduceGT, Int.reduceGE, Int.reduceNe, true_and, and_true, true_or, or_true, false_or, or_false, and_self, or_self, if_true, if_false, reduceIte, not_true_eq_false, not_false_eq_true, Int.reduceEq, Int.reduceNe, Int.reduceLT, Int.reduceLE, Int.reduceAdd, Int.reduceSub, Int.reduceMul, Int.reduceNeg, Nat.reduceAdd, Nat.reduceLeDiff, Nat.reduceEqDiff, ne_eq, List.length_cons, List.length_nil, Nat.reduceSub]
        exact this
      · obtain ⟨l1, l2⟩ := hlen _ _ _ z
        have hl : (c0 ++ cs ++ cs2).length + 1 ≤ a2 := by
          rw [List.length_append]
          clear kw
          omega
        have ex : ∀ e : Int, c0 ++ cs ++ cs2 ++ [e] = c0 ++ (cs ++ (cs2 ++ [e])) := fun e => by simp only [List.append_assoc]
        have hp := hC.push hl (e := -18)
        have := hG _ _ _ z (d + 8) _ Q c0 (i + 1) (vi 43) (by clear kw; omega) (by clear kw; omega) (Or.inr ⟨43, rfl⟩) (ptr_qc hP ((F.tr F2).tr push_fx)) (by rw [← ex]; exact hp) (fun kk pl y H3 F3 => he kk pl y H3 (((F.tr F2).tr push_fx).tr F3)) (fun a3 j3 cs3 y H3 F3 => hk a3 j3 cs3 y H3 (((F.tr F2).tr push_fx).tr F3))
        simp only [e_QU_sum_5, k_QU_sum_5, e_QU_sum_6, k_QU_sum_6, e_QU_sum_7, k_QU_sum_7, rr, sh, Nat.reduceLT, Nat.reduceMul, Int.reduceToNat, Int.reduceGT, Int.reduceGE, Int.reduceNe, true_and, and_true, true_or, or_true, false_or, or_false, and_self, or_self, if_true, if_false, reduceIte, not_true_eq_false, not_false_eq_true, Int.reduceEq, Int.reduceNe, Int.reduceLT, Int.reduceLE, Int.reduceAdd, Int.reduceSub, Int.reduceMul, Int.reduceNeg, Nat.reduceAdd, Nat.reduceLeDiff, Nat.reduceEqDiff, ne_eq, List.length_cons, List.length_nil, Nat.reduceSub, q_codeC hT hC hl (c := 17) (by decide), q_codeC hT hC hl (c := 18) (by decide), kw]
        exact this
  · rcases hy with rfl | ⟨v, rfl⟩
    all_goals
      simp only [k_QU_sum_2, e_QU_sum_3, k_QU_sum_3, rr, sh, Nat.reduceLT, Nat.reduceMul, Int.reduceToNat, Int.reduceGT, Int.reduceGE, Int.reduceNe, true_and, and_true, true_or, or_true, false_or, or_false, and_self, or_self, if_true, if_false, reduceIte, not_true_eq_false, not_false_eq_true, Int.reduceEq, Int.reduceNe, Int.reduceLT, Int.reduceLE, Int.reduceAdd, Int.reduceSub, Int.reduceMul, Int.reduceNeg, Nat.reduceAdd, Nat.reduceLeDiff, Nat.reduceEqDiff, ne_eq, List.length_cons, List.length_nil, Nat.reduceSub, c', x_next hT h, x_next hT hm.s, x_same hm, hb, x_sign hT hm hb]
      refine hS (d + 7) _ _ (c0 ++ cs) (by clear kw; omega) (ptr_qc hP F) h2 (fun kk pl z H' F2 q6 q7 u => ?_) (fun a2 j2 cs2 z H' F2 hC => ?_)
      · have := he kk pl (hE _ z) H' (F.tr F2) q6 q7 u
        simp only [e_QU_sum_4, k_QU_sum_4, rr, sh, Nat.reduceLT, Nat.reduceMul, Int.reduceToNat, Int.reduceGT, Int.reduceGE, Int.reduceNe, true_and, and_true, true_or, or_true, false_or, or_false, and_self, or_self, if_true, if_false, reduceIte, not_true_eq_false, not_false_eq_true, Int.reduceEq, Int.reduceNe, Int.reduceLT, Int.reduceLE, Int.reduceAdd, Int.reduceSub, Int.reduceMul, Int.reduceNeg, Nat.reduceAdd, Nat.reduceLeDiff, Nat.reduceEqDiff, ne_eq, List.length_cons, List.length_nil, Nat.reduceSub]
        exact this
      · obtain ⟨l1, l2⟩ := hlen _ _ _ z
        have hl : (c0 ++ cs ++ cs2).length + 1 ≤ a2 := by
          rw [List.length_append]
          clear kw
          omega
        have ex : ∀ e : Int, c0 ++ cs ++ cs2 ++ [e] = c0 ++ (cs ++ (cs2 ++ [e])) := fun e => by simp only [List.append_assoc]
        have hp := hC.push hl (e := -19)
        have := hG _ _ _ z (d + 8) _ Q c0 (i + 1) (vi 45) (by clear kw; omega) (by clear kw; omega) (Or.inr ⟨45, rfl⟩) (ptr_qc hP ((F.tr F2).tr push_fx)) (by rw [← ex]; exact hp) (fun kk pl y H3 F3 => he kk pl y H3 (((F.tr F2).tr push_fx).tr F3)) (fun a3 j3 cs3 y H3 F3 => hk a3 j3 cs3 y H3 (((F.tr F2).tr push_fx).tr F3))
        simp only [e_QU_sum_5, k_QU_sum_5, e_QU_sum_6, k_QU_sum_6, e_QU_sum_7, k_QU_sum_7, rr, sh, Nat.reduceLT, Nat.reduceMul, Int.reduceToNat, Int.reduceGT, Int.reduceGE, Int.reduceNe, true_and, and_true, true_or, or_true, false_or, or_false, and_self, or_self, if_true, if_false, reduceIte, not_true_eq_false, not_false_eq_true, Int.reduceEq, Int.reduceNe, Int.reduceLT, Int.reduceLE, Int.reduceAdd, Int.reduceSub, Int.reduceMul, Int.reduceNeg, Nat.reduceAdd, Nat.reduceLeDiff, Nat.reduceEqDiff, ne_eq, List.length_cons, List.length_nil, Nat.reduceSub, q_codeC hT hC hl (c := 17) (by decide), q_codeC hT hC hl (c := 18) (by decide), kw]
        exact this
theorem c_sum (hT : TapeR V) {a o k : Nat} {j : Int} {outp out : QO} (hS : CQ V QU_product (k + 5) a j o outp) (hE : ∀ x, outp = .error x → out = .error x) (hG : ∀ a' j' cs', outp = .ok (a', j', cs') → CLsum V (k + 8) a' j' o cs' out) : CQ V QU_sum (k + 8) a j o out := by
  intro D H Q c0 hD hP h he hk
  obtain ⟨d, rfl⟩ := ex_d (k := 8) (D := D) (by omega)
  simp only [en_QU_sum, e_QU_sum_0, k_QU_sum_0, rr, sh, Nat.reduceLT, Nat.reduceMul, Int.reduceToNat, Int.reduceGT, Int.reduceGE, Int.reduceNe, true_and, and_true, true_or, or_true, false_or, or_false, and_self, or_self, if_true, if_false, reduceIte, not_true_eq_false, not_false_eq_true, Int.reduceEq, Int.reduceNe, Int.reduceLT, Int.reduceLE, Int.reduceAdd, Int.reduceSub, Int.reduceMul, Int.reduceNeg, Nat.reduceAdd, Nat.reduceLeDiff, Nat.reduceEqDiff, ne_eq, List.length_cons, List.length_nil, Nat.reduceSub]
  refine hS (d + 7) _ _ c0 (by omega) hP h (fun kk pl z H' F2 q6 q7 u => ?_) (fun a2 j2 cs2 z H' F2 hC => ?_)
  · have := he kk pl (hE _ z) H' F2 q6 q7 u
    simp only [rr, sh, Nat.reduceLT, Nat.reduceMul, Int.reduceToNat, Int.reduceGT, Int.reduceGE, Int.reduceNe, true_and, and_true, true_or, or_true, false_or, or_false, and_self, or_self, if_true, if_false, reduceIte, not_true_eq_false, not_false_eq_true, Int.reduceEq, Int.reduceNe, Int.reduceLT, Int.reduceLE, Int.reduceAdd, Int.reduceSub, Int.reduceMul, Int.reduceNeg, Nat.reduceAdd, Nat.reduceLeDiff, Nat.reduceEqDiff, ne_eq, List.length_cons, List.length_nil, Nat.reduceSub]
    exact this
  · have := hG _ _ _ z (d + 8) _ Q c0 0 vu (by omega) (Nat.zero_le _) (Or.inl rfl) (ptr_qc hP F2) hC (fun kk pl y H3 F3 => he kk pl y H3 (F2.tr F3)) (fun a3 j3 cs3 y H3 F3 => hk a3 j3 cs3 y H3 (F2.tr F3))
    simp only [e_QU_sum_1, k_QU_sum_1, rr, sh, Nat.reduceLT, Nat.reduceMul, Int.reduceToNat, Int.reduceGT, Int.reduceGE, Int.reduceNe, true_and, and_true, true_or, or_true, false_or, or_false, and_self, or_self, if_true, if_false, reduceIte, not_true_eq_false, not_false_eq_true, Int.reduceEq, Int.reduceNe, Int.reduceLT, Int.reduceLE, Int.reduceAdd, Int.reduceSub, Int.reduceMul, Int.reduceNeg, Nat.reduceAdd, Nat.reduceLeDiff, Nat.reduceEqDiff, ne_eq, List.length_cons, List.length_nil, Nat.reduceSub]
    exact this
end QC1
