/-! QUESTIONS: reading, the class's primitives -/
abbrev QO : Type := Except (Int × Int) (Nat × Int × List Int)
/-- what the class's reading of a question writes -/
def sQC (a b : Int) : Bool := sLX a b || ((decide (a = 38) && decide (b = 2)) || decide (a = 39))
theorem sLX_qc (a b : Int) (h : sLX a b = true) : sQC a b = true := by unfold sQC; rw [h]; rfl
/-- the class reads a question: behind blanks at a, cs told -/
def CQs (V H : Hp) (a : Nat) (j : Int) (cs : List Int) : Prop := (∃ p : Nat, CRd V H p j ∧ skE V p = a) ∧ H 38 2 = (cs.length : Nat) ∧ (∀ k : Nat, k < cs.length → H 39 k = cs.getD k 0) ∧ cs.length ≤ a ∧ H 38 1 = 39
/-- the same, at itself -/
def CQa (V H : Hp) (a : Nat) (j : Int) (cs : List Int) : Prop := CRd V H a j ∧ skE V a = a ∧ H 38 2 = (cs.length : Nat) ∧ (∀ k : Nat, k < cs.length → H 39 k = cs.getD k 0) ∧ cs.length ≤ a ∧ H 38 1 = 39
section QA
variable {d : Nat} {V H : Hp} {Q : AV → Hp → Prop}
theorem CQa.s {a : Nat} {j : Int} {cs : List Int} (h : CQa V H a j cs) : CQs V H a j cs := ⟨⟨a, h.1, h.2.1⟩, h.2.2⟩
theorem CQs.sk {a : Nat} {j : Int} {cs : List Int} (h : CQs V H a j cs) : skE V a = a ∧ a ≤ tpN V := by
  obtain ⟨⟨p, h1, h2⟩, -⟩ := h
  have hn := h1.2.2.2.2.2
  rw [← h2]
  exact ⟨skE_sk hn, (skE_rng hn).2⟩
theorem CQs.mv {a : Nat} {j : Int} {cs : List Int} (h : CQs V H a j cs) : CQa V (hs H 2 2 a) a j cs := by
  obtain ⟨k1, k2⟩ := h.sk
  obtain ⟨⟨p, h1, h2⟩, h3, h4, h5, h6⟩ := h
  exact ⟨h1.mv k2, k1, (hs_ne' (by decide)).trans h3, fun k hk => (hs_ne' (by decide)).trans (h4 k hk), h5, (hs_ne' (by decide)).trans h6⟩
theorem CQs.lx {a b : Nat} {j i : Int} {cs : List Int} (h : CQs V H a j cs) {H' : Hp} (hF : Fx sLX H H') {p : Nat} (hC : CRd V H' p i) (hp : skE V p = b) (hab : a ≤ b) : CQs V H' b i cs := by
  obtain ⟨-, h3, h4, h5, h6⟩ := h
  exact ⟨⟨p, hC, hp⟩, (hF 38 2 rfl).trans h3, fun k hk => (hF 39 k rfl).trans (h4 k hk), Nat.le_trans h5 hab, (hF 38 1 rfl).trans h6⟩
theorem getD_app {l : List Int} {e : Int} {k : Nat} (hk : k < (l ++ [e]).length) : (l ++ [e]).getD k 0 = if k = l.length then e else l.getD k 0 := by
  rw [List.length_append, List.length_singleton] at hk
  by_cases c : k = l.length
  · rw [if_pos c, c, List.getD_eq_getElem?_getD, List.getElem?_append_right (Nat.le_refl _), Nat.sub_self]; rfl
  · rw [if_neg c, List.getD_eq_getElem?_getD, List.getD_eq_getElem?_getD, List.getElem?_append_left (by omega)]
theorem q_codeC (hT : TapeR V) {a : Nat} {j : Int} {cs : List Int} (h : CQs V H a j cs) (hl : cs.length + 1 ≤ a) {c : Int} (hc : 0 ≤ c ∧ c ≤ 100) : CC (d + 1) QU_code [va 38, vi c] H Q = Q vu (hs (hs H 39 (cs.length : Nat) (-1 - c)) 38 2 ((cs.length + 1 : Nat) : Int)) := by
  refine CC_dt fun Q hQ => ?_
  have n16 := tpN_le hT
  have ha := h.sk.2
  have b1 : cs.length < 1600 := Nat.lt_of_lt_of_le hl (Nat.le_trans ha n16)
  obtain ⟨-, h3, h4, h5, h6⟩ := h
  have w1 : w32 (-1 - c) = -1 - c := w32_id (by omega) (by omega)
  have kw := w32_s (n := cs.length) (Nat.lt_trans b1 (by decide))
  have c1 : ¬ (1600 : Int) ≤ (cs.length : Int) := il_n b1
  have j1 : 0 ≤ (cs.length : Int) ∧ (cs.length : Int) < 1600 := ix_n b1
  simp only [en_QU_code, e_QU_code_0, k_QU_code_0, en_QU_keep, e_QU_keep_0, k_QU_keep_0, e_QU_keep_1, k_QU_keep_1, rr, sh, Nat.reduceLT, Nat.reduceMul, Int.reduceToNat, Int.reduceGT, Int.reduceGE, Int.reduceNe, true_and, and_true, true_or, or_true, false_or, or_false, and_self, or_self, if_true, if_false, reduceIte, not_true_eq_false, not_false_eq_true, Int.reduceEq, Int.reduceNe, Int.reduceLT, Int.reduceLE, Int.reduceAdd, Int.reduceSub, Int.reduceMul, Int.reduceNeg, Nat.reduceAdd, Nat.reduceLeDiff, Nat.reduceEqDiff, ne_eq, List.length_cons, List.length_nil, Nat.reduceSub, hs_app, false_and, and_false, h3, h6, w1, c1, j1, kw]
  exact hQ
theorem q_keepC (hT : TapeR V) {a : Nat} {j : Int} {cs : List Int} (h : CQs V H a j cs) (hl : cs.length + 1 ≤ a) {e : Int} : CC d QU_keep [va 38, vi e] H Q = Q vu (hs (hs H 39 (cs.length : Nat) e) 38 2 ((cs.length + 1 : Nat) : Int)) := by
  refine CC_dt fun Q hQ => ?_
  have n16 := tpN_le hT
  have ha := h.sk.2
  have b1 : cs.length < 1600 := Nat.lt_of_lt_of_le hl (Nat.le_trans ha n16)
  obtain ⟨-, h3, h4, h5, h6⟩ := h
  have kw := w32_s (n := cs.length) (Nat.lt_trans b1 (by decide))
  have c1 : ¬ (1600 : Int) ≤ (cs.length : Int) := il_n b1
  have j1 : 0 ≤ (cs.length : Int) ∧ (cs.length : Int) < 1600 := ix_n b1
  simp only [en_QU_keep, e_QU_keep_0, k_QU_keep_0, e_QU_keep_1, k_QU_keep_1, rr, sh, Nat.reduceLT, Nat.reduceMul, Int.reduceToNat, Int.reduceGT, Int.reduceGE, Int.reduceNe, true_and, and_true, true_or, or_true, false_or, or_false, and_self, or_self, if_true, if_false, reduceIte, not_true_eq_false, not_false_eq_true, Int.reduceEq, Int.reduceNe, Int.reduceLT, Int.reduceLE, Int.reduceAdd, Int.reduceSub, Int.reduceMul, Int.reduceNeg, Nat.reduceAdd, Nat.reduceLeDiff, Nat.reduceEqDiff, ne_eq, List.length_cons, List.length_nil, Nat.reduceSub, hs_app, false_and, and_false, h3, h6, c1, j1, kw]
  exact hQ
theorem CQs.push {a : Nat} {j : Int} {cs : List Int} (h : CQs V H a j cs) (hl : cs.length + 1 ≤ a) {e : Int} : CQs V (hs (hs H 39 (cs.length : Nat) e) 38 2 ((cs.length + 1 : Nat) : Int)) a j (cs ++ [e]) := by
  obtain ⟨⟨p, h1, h2⟩, h3, h4, h5, h6⟩ := h
  have e2 : hs (hs H 39 (cs.length : Nat) e) 38 2 ((cs.length + 1 : Nat) : Int) 2 = H 2 := (hs_ne (by decide)).trans (hs_ne (by decide))
  have e3 : hs (hs H 39 (cs.length : Nat) e) 38 2 ((cs.length + 1 : Nat) : Int) 3 = H 3 := (hs_ne (by decide)).trans (hs_ne (by decide))
  refine ⟨⟨p, ?_, h2⟩, ?_, fun k hk => ?_, ?_, ?_⟩
  · unfold CRd TpV at h1 ⊢
    rw [e2, e3]
    exact h1
  · rw [List.length_append, List.length_singleton]; exact hs_same
  · rw [getD_app hk, hs_ne' (by decide), hs_at, at_z]
    by_cases c : k = cs.length
    · rw [if_pos c, if_pos c]
    · rw [if_neg c, if_neg c]
      rw [List.length_append, List.length_singleton] at hk
      exact h4 k (lt_sN hk c)
  · rw [List.length_append, List.length_singleton]; exact hl
  · rw [hs2 (by decide), hs_ne' (by decide)]; exact h6
theorem push_fx {n : Nat} {e v : Int} : Fx sQC H (hs (hs H 39 n e) 38 2 v) := (Fx.rf.hs (c := 39) (by unfold sQC; simp)).hs (c := 38) (j := 2) rfl
theorem fx_qc {H' : Hp} (hF : Fx sLX H H') : Fx sQC H H' := hF.up sLX_qc
theorem ptr_qc {H' : Hp} (h : Ptr H) (hF : Fx sQC H H') : Ptr H' := ptr_fx h hF (by decide +kernel)
/-- readers' answers hang on what is behind blanks alone -/
theorem wrQ_sk {p a : Nat} (hp : skE V p = a) (hn : p ≤ tpN V) {j : Int} : wrI V p j QW = wrI V a j QW := by
  subst hp
  unfold wrI ltH
  rw [skE_sk hn, enE_sk hn]
theorem numO_sk {p a : Nat} (hp : skE V p = a) (hn : p ≤ tpN V) {j lo hi : Int} : numO V p j lo hi = numO V a j lo hi := by
  subst hp
  unfold numO dgH
  rw [skE_sk hn]
theorem x_next {a : Nat} {j : Int} {cs : List Int} (hT : TapeR V) (h : CQs V H a j cs) : CC (d + 1) TP_next [va 2] H Q = Q (vi (bz V a)) (hs H 2 2 a) := by
  obtain ⟨⟨p, h1, h2⟩, -⟩ := h
  rw [q_next hT h1.1 h1.2.1 h1.2.2.2.2.2, h2]
theorem x_word {a : Nat} {j : Int} {cs : List Int} (hT : TapeR V) (h : CQs V H a j cs) : CC (d + 3) TP_wordHere [va 2, va 902] H Q = Q (vi (wrI V a j QW)) (hs H 2 2 a) := by
  obtain ⟨⟨p, h1, h2⟩, -⟩ := h
  have e : CC (d + 3) TP_wordHere [va 2, va 902] H Q = Q (vi (wrI V p j QW)) (hs H 2 2 (skE V p)) := q_wordHere hT h1.1 h1.2.1 h1.2.2.2.2.2 h1.2.2.1 stw_QW
  rw [e, wrQ_sk h2 h1.2.2.2.2.2, h2]
theorem x_same {a : Nat} {j : Int} {cs : List Int} (h : CQa V H a j cs) : hs H 2 2 a = H := by rw [← h.1.2.1, hs_self]
theorem x_pass {a : Nat} {j : Int} {cs : List Int} (hT : TapeR V) (h : CQa V H a j cs) : CC (d + 2) TP_passWord [va 2] H Q = Q vu (hs (hs H 2 2 (enE V a)) 2 3 (enE V a)) := by
  have e : enE V a = weE V a := by unfold enE; rw [h.2.1]
  rw [q_passWord hT h.1.1 h.1.2.1 h.1.2.2.2.2.2, e]
theorem CQa.pass {a : Nat} {j : Int} {cs : List Int} (h : CQa V H a j cs) : CQs V (hs (hs H 2 2 (enE V a)) 2 3 (enE V a)) (skE V (enE V a)) (enE V a) cs := by
  have r := enE_rng h.1.2.2.2.2.2
  have F : Fx sLX H (hs (hs H 2 2 (enE V a)) 2 3 (enE V a)) := (Fx.rf.hs (c := 2) (j := 2) rfl).hs (c := 2) (j := 3) rfl
  refine h.s.lx F (p := enE V a) ⟨sLX_tp h.1.1 F, (hs2 (by decide)).trans hs_same, hs_same, ?_, ?_, r.2.1⟩ rfl (Nat.le_trans r.1 (skE_rng r.2.1).1)
  · exact (hs2 (by decide)).trans ((hs2 (by decide)).trans h.1.2.2.2.1)
  · exact (hs2 (by decide)).trans ((hs2 (by decide)).trans h.1.2.2.2.2.1)
theorem x_sign {a : Nat} {j : Int} {cs : List Int} (hT : TapeR V) (h : CQa V H a j cs) {c : Int} (hc : bz V a = c) : CC (d + 2) TP_takeSign [va 2, vi c] H Q = Q (vi 1) (hs H 2 2 ((a + 1 : Nat) : Int)) := by
  rw [q_takeSignC hT h.1.1 h.1.2.1 h.1.2.2.2.2.2, h.2.1, if_pos hc, if_pos hc, x_same h]
theorem CQa.sign {a : Nat} {j : Int} {cs : List Int} (h : CQa V H a j cs) (hc : 0 ≤ bz V a) : CQs V (hs H 2 2 ((a + 1 : Nat) : Int)) (skE V (a + 1)) j cs := by
  have lt := bz_in' (V := V) (k := a) rfl hc
  exact h.s.lx (Fx.rf.hs (c := 2) (j := 2) rfl) (h.1.mv (b := a + 1) lt) rfl (Nat.le_trans (Nat.le_succ a) (skE_rng lt).1)
theorem x_signN {a : Nat} {j : Int} {cs : List Int} (hT : TapeR V) (h : CQs V H a j cs) {c : Int} (hc : ¬ bz V a = c) : CC (d + 2) TP_takeSign [va 2, vi c] H Q = Q (vi 0) (hs (hs (hs H 2 2 a) 2 6 1) 2 7 a) := by
  obtain ⟨⟨p, h1, h2⟩, -⟩ := h
  rw [q_takeSignC hT h1.1 h1.2.1 h1.2.2.2.2.2, h2, if_neg hc, if_neg hc]
theorem x_signY {a : Nat} {j : Int} {cs : List Int} (hT : TapeR V) (h : CQs V H a j cs) {c : Int} (hc : bz V a = c) : CC (d + 2) TP_takeSign [va 2, vi c] H Q = Q (vi 1) (hs (hs H 2 2 a) 2 2 ((a + 1 : Nat) : Int)) := by
  obtain ⟨⟨p, h1, h2⟩, -⟩ := h
  rw [q_takeSignC hT h1.1 h1.2.1 h1.2.2.2.2.2, h2, if_pos hc, if_pos hc]
theorem q_mayY {o : Nat} (ho : o < 6) : CC (d + 1) QU_mayOpen [va 2, vi o] H Q = Q (vi 1) H := by
  refine CC_dt fun Q hQ => ?_
  have c1 : (o : Int) < 6 := by omega
  simp only [en_QU_mayOpen, e_QU_mayOpen_0, k_QU_mayOpen_0, e_QU_mayOpen_1, k_QU_mayOpen_1, e_QU_mayOpen_2, k_QU_mayOpen_2, e_QU_mayOpen_3, k_QU_mayOpen_3, rr, sh, Nat.reduceLT, Nat.reduceMul, Int.reduceToNat, Int.reduceGT, Int.reduceGE, Int.reduceNe, true_and, and_true, true_or, or_true, false_or, or_false, and_self, or_self, if_true, if_false, reduceIte, not_true_eq_false, not_false_eq_true, Int.reduceEq, Int.reduceNe, Int.reduceLT, Int.reduceLE, Int.reduceAdd, Int.reduceSub, Int.reduceMul, Int.reduceNeg, Nat.reduceAdd, Nat.reduceLeDiff, Nat.reduceEqDiff, ne_eq, List.length_cons, List.length_nil, Nat.reduceSub, c1]
  exact hQ
theorem q_mayN {o : Nat} (ho : ¬ o < 6) : CC (d + 1) QU_mayOpen [va 2, vi o] H Q = Q (vi 0) (hs (hs H 2 6 4) 2 7 (H 2 2)) := by
  refine CC_dt fun Q hQ => ?_
  have c1 : ¬ (o : Int) < 6 := by omega
  simp only [en_QU_mayOpen, e_QU_mayOpen_0, k_QU_mayOpen_0, e_QU_mayOpen_1, k_QU_mayOpen_1, e_QU_mayOpen_2, k_QU_mayOpen_2, e_QU_mayOpen_3, k_QU_mayOpen_3, rr, sh, Nat.reduceLT, Nat.reduceMul, Int.reduceToNat, Int.reduceGT, Int.reduceGE, Int.reduceNe, true_and, and_true, true_or, or_true, false_or, or_false, and_self, or_self, if_true, if_false, reduceIte, not_true_eq_false, not_false_eq_true, Int.reduceEq, Int.reduceNe, Int.reduceLT, Int.reduceLE, Int.reduceAdd, Int.reduceSub, Int.reduceMul, Int.reduceNeg, Nat.reduceAdd, Nat.reduceLeDiff, Nat.reduceEqDiff, ne_eq, List.length_cons, List.length_nil, Nat.reduceSub, c1, q_failC]
  exact hQ
theorem CQs.u0 {a : Nat} {j : Int} {cs : List Int} (h : CQs V H a j cs) : 0 ≤ H 38 2 := by rw [h.2.1]; exact Int.natCast_nonneg _
theorem u_f {H : Hp} (h : 0 ≤ H 38 2) {a b : Int} : 0 ≤ hs (hs (hs H 2 2 a) 2 6 b) 2 7 a 38 2 := by
  rw [hs_ne' (by decide), hs_ne' (by decide), hs_ne' (by decide)]; exact h
/-- a code told behind a fault -/
theorem c_codeE {c : Int} (hc : 0 ≤ c ∧ c ≤ 100) (h6 : H 38 1 = 39) (h0 : 0 ≤ H 38 2) (hQ : ∀ H', Fx sQC H H' → H' 2 = H 2 → 0 ≤ H' 38 2 → Q vu H') : CC (d + 1) QU_code [va 38, vi c] H Q := by
  have w1 : w32 (-1 - c) = -1 - c := w32_id (by omega) (by omega)
  generalize hn : H 38 2 = n at *
  by_cases c1 : (1600 : Int) ≤ n
  · have := hQ H Fx.rf rfl (by rw [hn]; exact h0)
    simp only [en_QU_code, e_QU_code_0, k_QU_code_0, en_QU_keep, e_QU_keep_0, k_QU_keep_0, e_QU_keep_1, k_QU_keep_1, rr, sh, Nat.reduceLT, Nat.reduceMul, Int.reduceToNat, Int.reduceGT, Int.reduceGE, Int.reduceNe, true_and, and_true, true_or, or_true, false_or, or_false, and_self, or_self, if_true, if_false, reduceIte, not_true_eq_false, not_false_eq_true, Int.reduceEq, Int.reduceNe, Int.reduceLT, Int.reduceLE, Int.reduceAdd, Int.reduceSub, Int.reduceMul, Int.reduceNeg, Nat.reduceAdd, Nat.reduceLeDiff, Nat.reduceEqDiff, ne_eq, List.length_cons, List.length_nil, Nat.reduceSub, hn, h6, w1, c1]
    exact this
  · have c2 : n < 1600 := Int.not_le.mp c1
    have kw : w32 (n + 1) = n + 1 := w32_id (by clear w1; omega) (by clear w1; omega)
    have := hQ (hs (hs H 39 n (-1 - c)) 38 2 (n + 1)) ((Fx.rf.hs (c := 39) (by unfold sQC; simp)).hs (c := 38) (j := 2) rfl) ((hs_ne (by decide)).trans (hs_ne (by decide))) (by rw [hs_same]; clear w1 kw; omega)
    simp only [en_QU_code, e_QU_code_0, k_QU_code_0, en_QU_keep, e_QU_keep_0, k_QU_keep_0, e_QU_keep_1, k_QU_keep_1, rr, sh, Nat.reduceLT, Nat.reduceMul, Int.reduceToNat, Int.reduceGT, Int.reduceGE, Int.reduceNe, true_and, and_true, true_or, or_true, false_or, or_false, and_self, or_self, if_true, if_false, reduceIte, not_true_eq_false, not_false_eq_true, Int.reduceEq, Int.reduceNe, Int.reduceLT, Int.reduceLE, Int.reduceAdd, Int.reduceSub, Int.reduceMul, Int.reduceNeg, Nat.reduceAdd, Nat.reduceLeDiff, Nat.reduceEqDiff, ne_eq, List.length_cons, List.length_nil, Nat.reduceSub, hs_app, false_and, and_false, hn, h6, w1, c1, h0, c2, kw]
    exact this
end QA
/-- the class reads one kind of a question's pieces -/
def CQ (V : Hp) (m k a : Nat) (j : Int) (o : Nat) (out : QO) : Prop := ∀ (d : Nat) (H : Hp) (Q : AV → Hp → Prop) (c0 : List Int), k ≤ d → Ptr H → CQs V H a j c0 →
  (∀ kk pl, out = .error (kk, pl) → ∀ H', Fx sQC H H' → H' 2 6 = kk → H' 2 7 = pl → 0 ≤ H' 38 2 → Q (vi 0) H') →
  (∀ a' j' cs, out = .ok (a', j', cs) → ∀ H', Fx sQC H H' → CQs V H' a' j' (c0 ++ cs) → Q (vi 1) H') → CC d m [va 38, va 2, vi o] H Q
/-- what an outcome tells: on its way, its codes fit -/
def QF (V : Hp) (a n : Nat) (b : Bool) (out : QO) : Prop := (∀ kk pl, out = .error (kk, pl) → kk ≠ 0) ∧ ∀ a' j' cs, out = .ok (a', j', cs) → a < a' ∧ a' ≤ tpN V ∧ skE V a' = a' ∧ a + cs.length ≤ a' ∧ WFq V cs n b
