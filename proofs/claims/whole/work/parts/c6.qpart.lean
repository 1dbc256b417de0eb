/-! QUESTIONS: the class's pieces of a sum -/
/-- a closing sign asked behind an outcome -/
def quS (V : Hp) (c : Int) (f : List Int → List Int) (out : QO) : QO := match out with
  | .error x => .error x
  | .ok (a, j, cs) => if bz V a = c then .ok (skE V (a + 1), j, f cs) else .error (1, (a : Int))
def quF (f : List Int → List Int) (out : QO) : QO := match out with
  | .error x => .error x
  | .ok (a, j, cs) => .ok (a, j, f cs)
def qNu (V : Hp) (a : Nat) (j : Int) : QO := match numO V a j 0 99999 with
  | .error x => .error x
  | .ok (e, v) => .ok (skE V e, (e : Int), [v])
section QB
variable {V : Hp}
theorem ex_d {k D : Nat} (h : k ≤ D) : ∃ d, D = d + k := ⟨D - k, by omega⟩
theorem wo {o : Nat} (ho : o < 6) : w32 ((o : Int) + 1) = ((o + 1 : Nat) : Int) := w32_s (by omega)
theorem CQ.up {m k k' a : Nat} {j : Int} {o : Nat} {out : QO} (h : CQ V m k a j o out) (hk : k ≤ k') : CQ V m k' a j o out := fun d H Q c0 hd => h d H Q c0 (Nat.le_trans hk hd)
theorem fx_s1 {H : Hp} {a b : Int} : Fx sQC H (hs (hs H 2 2 a) 2 2 b) := fx_qc ((Fx.rf.hs (c := 2) (j := 2) rfl).hs (c := 2) (j := 2) rfl)
theorem fx_s2 {H : Hp} {a b : Int} : Fx sQC H (hs (hs (hs H 2 2 a) 2 6 b) 2 7 a) := fx_qc (((Fx.rf.hs (c := 2) (j := 2) rfl).hs (c := 2) (j := 6) rfl).hs (c := 2) (j := 7) rfl)
theorem fl_6 {H : Hp} {a b : Int} : hs (hs (hs H 2 2 a) 2 6 b) 2 7 a 2 6 = b := (hs2 (by decide)).trans hs_same
theorem x_failH {d : Nat} {H : Hp} {Q : AV → Hp → Prop} {a : Int} : CC (d + 1) TP_failHere [va 2] (hs H 2 2 a) Q = Q (vi 0) (hs (hs (hs H 2 2 a) 2 6 1) 2 7 a) := q_failHere hs_same
/-- ( SUM ) -/
theorem c_paren (hT : TapeR V) {a o k : Nat} {j : Int} {out : QO} (ho : o < 6) (hb : bz V a = 40) (hS : CQ V QU_sum (k + 5) (skE V (a + 1)) j (o + 1) out) : CQ V QU_part (k + 8) a j o (quS V 41 (fun c => c) out) := by
  intro D H Q c0 hD hP h he hk
  obtain ⟨d, rfl⟩ := ex_d (k := 8) (D := D) (by omega)
  have h1 := h.mv
  have h2 := h1.sign (by rw [hb]; decide)
  have F2 : Fx sQC H (hs (hs H 2 2 a) 2 2 ((a + 1 : Nat) : Int)) := fx_s1
  have w := wo ho
  simp only [en_QU_part, e_QU_part_0, k_QU_part_0, e_QU_part_1, k_QU_part_1, e_QU_part_2, k_QU_part_2, rr, sh, Nat.reduceLT, Nat.reduceMul, Int.reduceToNat, Int.reduceGT, Int.reduceGE, Int.reduceNe, true_and, and_true, true_or, or_true, false_or, or_false, and_self, or_self, if_true, if_false, reduceIte, not_true_eq_false, not_false_eq_true, Int.reduceEq, Int.reduceNe, Int.reduceLT, Int.reduceLE, Int.reduceAdd, Int.reduceSub, Int.reduceMul, Int.reduceNeg, Nat.reduceAdd, Nat.reduceLeDiff, Nat.reduceEqDiff, ne_eq, List.length_cons, List.length_nil, Nat.reduceSub, x_next hT h, hb, q_mayY ho, x_sign hT h1 hb, w]
  refine hS (d + 7) _ _ c0 (by omega) (ptr_qc hP F2) h2 (fun kk pl z H' F q6 q7 u => ?_) (fun a2 j2 cs z H' F hC => ?_)
  · have := he kk pl (by unfold quS; rw [z]; try rfl) H' (F2.tr F) q6 q7 u
    simp only [e_QU_part_1, k_QU_part_1, e_QU_part_2, k_QU_part_2, rr, sh, Nat.reduceLT, Nat.reduceMul, Int.reduceToNat, Int.reduceGT, Int.reduceGE, Int.reduceNe, true_and, and_true, true_or, or_true, false_or, or_false, and_self, or_self, if_true, if_false, reduceIte, not_true_eq_false, not_false_eq_true, Int.reduceEq, Int.reduceNe, Int.reduceLT, Int.reduceLE, Int.reduceAdd, Int.reduceSub, Int.reduceMul, Int.reduceNeg, Nat.reduceAdd, Nat.reduceLeDiff, Nat.reduceEqDiff, ne_eq, List.length_cons, List.length_nil, Nat.reduceSub]
    exact this
  · by_cases c : bz V a2 = 41
    · have := hk _ _ _ (by unfold quS; rw [z]; exact if_pos c) _ ((F2.tr F).tr fx_s1) (hC.mv.sign (by rw [c]; decide))
      simp only [e_QU_part_1, k_QU_part_1, e_QU_part_2, k_QU_part_2, rr, sh, Nat.reduceLT, Nat.reduceMul, Int.reduceToNat, Int.reduceGT, Int.reduceGE, Int.reduceNe, true_and, and_true, true_or, or_true, false_or, or_false, and_self, or_self, if_true, if_false, reduceIte, not_true_eq_false, not_false_eq_true, Int.reduceEq, Int.reduceNe, Int.reduceLT, Int.reduceLE, Int.reduceAdd, Int.reduceSub, Int.reduceMul, Int.reduceNeg, Nat.reduceAdd, Nat.reduceLeDiff, Nat.reduceEqDiff, ne_eq, List.length_cons, List.length_nil, Nat.reduceSub, x_signY hT hC c]
      exact this
    · have := he 1 a2 (by unfold quS; rw [z]; exact if_neg c) _ ((F2.tr F).tr fx_s2) fl_6 hs_same (u_f hC.u0)
      simp only [e_QU_part_1, k_QU_part_1, e_QU_part_2, k_QU_part_2, rr, sh, Nat.reduceLT, Nat.reduceMul, Int.reduceToNat, Int.reduceGT, Int.reduceGE, Int.reduceNe, true_and, and_true, true_or, or_true, false_or, or_false, and_self, or_self, if_true, if_false, reduceIte, not_true_eq_false, not_false_eq_true, Int.reduceEq, Int.reduceNe, Int.reduceLT, Int.reduceLE, Int.reduceAdd, Int.reduceSub, Int.reduceMul, Int.reduceNeg, Nat.reduceAdd, Nat.reduceLeDiff, Nat.reduceEqDiff, ne_eq, List.length_cons, List.length_nil, Nat.reduceSub, x_signN hT hC c]
      exact this
theorem c_parenN (hT : TapeR V) {a o k : Nat} {j : Int} (ho : ¬ o < 6) (hb : bz V a = 40) : CQ V QU_part (k + 8) a j o (.error (4, (a : Int))) := by
  intro D H Q c0 hD hP h he hk
  obtain ⟨d, rfl⟩ := ex_d (k := 8) (D := D) (by omega)
  have b2 : hs H 2 2 a 2 2 = a := hs_same
  have := he 4 a rfl _ fx_s2 fl_6 hs_same (u_f h.u0)
  simp only [en_QU_part, e_QU_part_0, k_QU_part_0, e_QU_part_1, k_QU_part_1, e_QU_part_2, k_QU_part_2, rr, sh, Nat.reduceLT, Nat.reduceMul, Int.reduceToNat, Int.reduceGT, Int.reduceGE, Int.reduceNe, true_and, and_true, true_or, or_true, false_or, or_false, and_self, or_self, if_true, if_false, reduceIte, not_true_eq_false, not_false_eq_true, Int.reduceEq, Int.reduceNe, Int.reduceLT, Int.reduceLE, Int.reduceAdd, Int.reduceSub, Int.reduceMul, Int.reduceNeg, Nat.reduceAdd, Nat.reduceLeDiff, Nat.reduceEqDiff, ne_eq, List.length_cons, List.length_nil, Nat.reduceSub, x_next hT h, hb, q_mayN ho, b2]
  exact this
/-- a number -/
theorem c_num (hT : TapeR V) {a o k : Nat} {j : Int} (hb : dgB (bz V a) = true) : CQ V QU_part (k + 8) a j o (qNu V a j) := by
  intro D H Q c0 hD hP h he hk
  obtain ⟨d, rfl⟩ := ex_d (k := 8) (D := D) (by omega)
  have h1 := h.mv
  have F1 : Fx sLX H (hs H 2 2 a) := Fx.rf.hs (c := 2) (j := 2) rfl
  have n40 : ¬ bz V a = 40 := fun z => by rw [z] at hb; cases hb
  have lt := dg_in hb
  have n16 := tpN_le hT
  simp only [en_QU_part, e_QU_part_0, k_QU_part_0, e_QU_part_3, k_QU_part_3, rr, sh, Nat.reduceLT, Nat.reduceMul, Int.reduceToNat, Int.reduceGT, Int.reduceGE, Int.reduceNe, true_and, and_true, true_or, or_true, false_or, or_false, and_self, or_self, if_true, if_false, reduceIte, not_true_eq_false, not_false_eq_true, Int.reduceEq, Int.reduceNe, Int.reduceLT, Int.reduceLE, Int.reduceAdd, Int.reduceSub, Int.reduceMul, Int.reduceNeg, Nat.reduceAdd, Nat.reduceLeDiff, Nat.reduceEqDiff, ne_eq, List.length_cons, List.length_nil, Nat.reduceSub, x_next hT h, n40, q_isDigitC, hb, show bI true = 1 from rfl]
  refine x_numC (d := d + 5) hT h1.1 (fun kk pl z H' F q6 q7 => ?_) (fun e v z H' F hC q4 q5 => ?_)
  · have e38 : H' 38 2 = (c0.length : Nat) := (F 38 2 rfl).trans h1.2.2.1
    have e39 : H' 38 1 = 39 := (F 38 1 rfl).trans h1.2.2.2.2.2
    have b1 : c0.length < 1600 := Nat.lt_of_le_of_lt h1.2.2.2.2.1 (Nat.lt_of_lt_of_le lt n16)
    have kw := w32_s (n := c0.length) (Nat.lt_trans b1 (by decide))
    have c1 : ¬ (1600 : Int) ≤ (c0.length : Int) := il_n b1
    have j1 : 0 ≤ (c0.length : Int) ∧ (c0.length : Int) < 1600 := ix_n b1
    have := he kk pl (by unfold qNu; rw [z]; try rfl) _ ((fx_qc (F1.tr F)).tr (push_fx (n := c0.length) (e := H' 2 4) (v := ((c0.length + 1 : Nat) : Int)))) ((hs_ne' (by decide)).trans ((hs_ne' (by decide)).trans q6)) ((hs_ne' (by decide)).trans ((hs_ne' (by decide)).trans q7)) (by rw [hs_same]; exact Int.natCast_nonneg _)
    simp only [en_QU_keep, e_QU_keep_0, k_QU_keep_0, e_QU_keep_1, k_QU_keep_1, rr, sh, Nat.reduceLT, Nat.reduceMul, Int.reduceToNat, Int.reduceGT, Int.reduceGE, Int.reduceNe, true_and, and_true, true_or, or_true, false_or, or_false, and_self, or_self, if_true, if_false, reduceIte, not_true_eq_false, not_false_eq_true, Int.reduceEq, Int.reduceNe, Int.reduceLT, Int.reduceLE, Int.reduceAdd, Int.reduceSub, Int.reduceMul, Int.reduceNeg, Nat.reduceAdd, Nat.reduceLeDiff, Nat.reduceEqDiff, ne_eq, List.length_cons, List.length_nil, Nat.reduceSub, hs_app, false_and, and_false, e38, e39, c1, j1, kw]
    exact this
  · have r := numO_ok (Nat.le_of_lt lt) z
    have h4 : CQs V H' (skE V e) e c0 := h1.s.lx F hC rfl (Nat.le_trans (Nat.le_of_lt r.1) (skE_rng r.2.1).1)
    have hl : c0.length + 1 ≤ skE V e := Nat.le_trans (Nat.succ_le_succ h1.2.2.2.2.1) (Nat.le_trans r.1 (skE_rng r.2.1).1)
    have := hk _ _ _ (by unfold qNu; rw [z]; try rfl) _ ((fx_qc (F1.tr F)).tr push_fx) (h4.push hl (e := v))
    simp only [rr, sh, Nat.reduceLT, Nat.reduceMul, Int.reduceToNat, Int.reduceGT, Int.reduceGE, Int.reduceNe, true_and, and_true, true_or, or_true, false_or, or_false, and_self, or_self, if_true, if_false, reduceIte, not_true_eq_false, not_false_eq_true, Int.reduceEq, Int.reduceNe, Int.reduceLT, Int.reduceLE, Int.reduceAdd, Int.reduceSub, Int.reduceMul, Int.reduceNeg, Nat.reduceAdd, Nat.reduceLeDiff, Nat.reduceEqDiff, ne_eq, List.length_cons, List.length_nil, Nat.reduceSub, q4, q_keepC hT h4 hl]
    exact this
theorem wr_dg (hT : TapeR V) {a : Nat} {j w : Int} (hk : skE V a = a) (hw : wrI V a j QW = w) (h0 : 0 ≤ w) : ltB (bz V a) = true := by
  unfold wrI at hw
  by_cases c : ltH V a j = true
  · unfold ltH at c
    rw [Bool.and_eq_true, hk] at c
    exact c.1
  · rw [if_neg c] at hw
    omega
theorem lt_nd {c : Int} (h : ltB c = true) : dgB c = false ∧ c ≠ 40 ∧ c ≠ 91 := by
  have := ltB_rng h
  exact ⟨decide_eq_false (by omega), by omega, by omega⟩
/-- a word that stands alone -/
theorem c_leaf (hT : TapeR V) {a o k : Nat} {j w : Int} (hsk : skE V a = a) (hw : wrI V a j QW = w) (h3 : w = 10 ∨ w = 11 ∨ w = 12) : CQ V QU_part (k + 8) a j o (.ok (skE V (enE V a), (enE V a : Int), [-1 - w])) := by
  intro D H Q c0 hD hP h he hk
  obtain ⟨d, rfl⟩ := ex_d (k := 8) (D := D) (by omega)
  have h1 := h.mv
  obtain ⟨nd, n40, -⟩ := lt_nd (wr_dg hT hsk hw (by omega))
  have hx : CC (d + 7) TP_wordHere [va 2, va 902] (hs H 2 2 a) = fun Q => Q (vi w) (hs H 2 2 a) := by funext Q; rw [x_word (d := d + 4) hT h1.s, hw, x_same h1]
  have h2 := h1.pass
  have lt : a < enE V a := by
    have hl := wr_dg hT hsk hw (by omega)
    have : ltH V a j = true := by
      unfold wrI at hw
      apply Classical.byContradiction
      intro z
      rw [if_neg z] at hw
      omega
    have := ltH_gt h1.1.2.2.2.2.2 this
    rw [hsk] at this
    exact this
  have hl : c0.length + 1 ≤ skE V (enE V a) := Nat.le_trans (Nat.succ_le_succ h1.2.2.2.2.1) (Nat.le_trans lt (skE_rng (enE_rng h1.1.2.2.2.2.2).2.1).1)
  have F : Fx sQC H (hs (hs (hs H 2 2 a) 2 2 (enE V a)) 2 3 (enE V a)) := fx_qc (((Fx.rf.hs (c := 2) (j := 2) rfl).hs (c := 2) (j := 2) rfl).hs (c := 2) (j := 3) rfl)
  have := hk _ _ _ rfl _ (F.tr push_fx) (h2.push hl (e := -1 - w))
  simp only [en_QU_part, e_QU_part_0, k_QU_part_0, e_QU_part_3, k_QU_part_3, e_QU_part_4, k_QU_part_4, rr, sh, Nat.reduceLT, Nat.reduceMul, Int.reduceToNat, Int.reduceGT, Int.reduceGE, Int.reduceNe, true_and, and_true, true_or, or_true, false_or, or_false, and_self, or_self, if_true, if_false, reduceIte, not_true_eq_false, not_false_eq_true, Int.reduceEq, Int.reduceNe, Int.reduceLT, Int.reduceLE, Int.reduceAdd, Int.reduceSub, Int.reduceMul, Int.reduceNeg, Nat.reduceAdd, Nat.reduceLeDiff, Nat.reduceEqDiff, ne_eq, List.length_cons, List.length_nil, Nat.reduceSub, x_next hT h, n40, q_isDigitC, nd, show bI false = 0 from rfl, hx]
  rcases h3 with rfl | rfl | rfl
  all_goals
    simp only [e_QU_part_5, k_QU_part_5, rr, sh, Nat.reduceLT, Nat.reduceMul, Int.reduceToNat, Int.reduceGT, Int.reduceGE, Int.reduceNe, true_and, and_true, true_or, or_true, false_or, or_false, and_self, or_self, if_true, if_false, reduceIte, not_true_eq_false, not_false_eq_true, Int.reduceEq, Int.reduceNe, Int.reduceLT, Int.reduceLE, Int.reduceAdd, Int.reduceSub, Int.reduceMul, Int.reduceNeg, Nat.reduceAdd, Nat.reduceLeDiff, Nat.reduceEqDiff, ne_eq, List.length_cons, List.length_nil, Nat.reduceSub, x_pass hT h1, q_codeC hT h2 hl (c := 10) (by decide), q_codeC hT h2 hl (c := 11) (by decide), q_codeC hT h2 hl (c := 12) (by decide)]
    exact this
theorem c_none (hT : TapeR V) {a o k : Nat} {j : Int} (hsk : skE V a = a) (h40 : ¬ bz V a = 40) (hd : dgB (bz V a) = false) (hw : ¬ (10 ≤ wrI V a j QW)) : CQ V QU_part (k + 8) a j o (.error (1, (a : Int))) := by
  intro D H Q c0 hD hP h he hk
  obtain ⟨d, rfl⟩ := ex_d (k := 8) (D := D) (by omega)
  have h1 := h.mv
  have hx : CC (d + 7) TP_wordHere [va 2, va 902] (hs H 2 2 a) = fun Q => Q (vi (wrI V a j QW)) (hs H 2 2 a) := by funext Q; rw [x_word (d := d + 4) hT h1.s, x_same h1]
  have lo : -1 ≤ wrI V a j QW := by
    unfold wrI
    split
    · rcases pl_lo (V := V) (a := skE V a) (e := enE V a) QW 0 with z | z <;> omega
    · decide
  have := he 1 a rfl _ fx_s2 fl_6 hs_same (u_f h.u0)
  simp only [en_QU_part, e_QU_part_0, k_QU_part_0, e_QU_part_3, k_QU_part_3, e_QU_part_4, k_QU_part_4, rr, sh, Nat.reduceLT, Nat.reduceMul, Int.reduceToNat, Int.reduceGT, Int.reduceGE, Int.reduceNe, true_and, and_true, true_or, or_true, false_or, or_false, and_self, or_self, if_true, if_false, reduceIte, not_true_eq_false, not_false_eq_true, Int.reduceEq, Int.reduceNe, Int.reduceLT, Int.reduceLE, Int.reduceAdd, Int.reduceSub, Int.reduceMul, Int.reduceNeg, Nat.reduceAdd, Nat.reduceLeDiff, Nat.reduceEqDiff, ne_eq, List.length_cons, List.length_nil, Nat.reduceSub, x_next hT h, h40, q_isDigitC, hd, show bI false = 0 from rfl, hx]
  generalize wrI V a j QW = w at *
  have cs : w = -1 ∨ w = 0 ∨ w = 1 ∨ w = 2 ∨ w = 3 ∨ w = 4 ∨ w = 5 ∨ w = 6 ∨ w = 7 ∨ w = 8 ∨ w = 9 := by omega
  rcases cs with rfl | rfl | rfl | rfl | rfl | rfl | rfl | rfl | rfl | rfl | rfl
  all_goals
    simp only [e_QU_part_8, k_QU_part_8, rr, sh, Nat.reduceLT, Nat.reduceMul, Int.reduceToNat, Int.reduceGT, Int.reduceGE, Int.reduceNe, true_and, and_true, true_or, or_true, false_or, or_false, and_self, or_self, if_true, if_false, reduceIte, not_true_eq_false, not_false_eq_true, Int.reduceEq, Int.reduceNe, Int.reduceLT, Int.reduceLE, Int.reduceAdd, Int.reduceSub, Int.reduceMul, Int.reduceNeg, Nat.reduceAdd, Nat.reduceLeDiff, Nat.reduceEqDiff, ne_eq, List.length_cons, List.length_nil, Nat.reduceSub, x_failH]
    exact this
end QB
