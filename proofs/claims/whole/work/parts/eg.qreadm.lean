/-! QUESTIONS: the reference's reading, whole -/
def sQN (a b : Int) : Bool := sQM a b || (decide (a = 71) && (decide (b = 1) || decide (b = 3)))
theorem sQM_qn (a b : Int) (h : sQM a b = true) : sQN a b = true := by unfold sQN; rw [h]; rfl
/-- the heap ahead of the reference's reading -/
def am0 (H : Hp) (e : Int) : Hp := hs (hs (hs (hs (hs (hs (hs (hs (hs (hs H 71 3 e) 71 1 0) 71 2 0) 71 4 (-1)) 71 5 0) 71 6 (-1)) 71 88 0) 71 90 0) 71 91 0) 71 92 0
section QR2
variable {d : Nat} {V B H : Hp} {Q : AV → Hp → Prop} {a : Nat} {j : Int}
theorem am0_fx {e : Int} : Fx sQN H (am0 H e) := (((((((((Fx.rf.hs (c := 71) (j := 3) rfl).hs (c := 71) (j := 1) rfl).hs (c := 71) (j := 2) rfl).hs (c := 71) (j := 4) rfl).hs (c := 71) (j := 5) rfl).hs (c := 71) (j := 6) rfl).hs (c := 71) (j := 88) rfl).hs (c := 71) (j := 90) rfl).hs (c := 71) (j := 91) rfl).hs (c := 71) (j := 92) rfl
theorem am0_m (hP : Ptr H) (e72 : H 72 = V 72) : MQs V (am0 H (tpN V)) (am0 H (tpN V)) (skE V 0) (-1) [] [] 0 0 := by
  have p0 : H 71 0 = 72 := hP (71, 0, 72) (by decide +kernel)
  have no : ∀ {q : Prop} (k : Nat), k < ([] : List Int).length → q := fun k hk => absurd hk (Nat.not_lt_zero k)
  refine ⟨⟨0, ⟨⟨?_, ?_, ?_⟩, ?_, ?_, ?_, ?_, Nat.zero_le _⟩, rfl⟩, ⟨?_, fun k hk => no k hk⟩, ⟨?_, fun k hk => no k hk⟩, ?_, ?_, Nat.zero_le _, Fx.rf⟩
  · unfold am0; simp only [hs_app, Int.reduceEq, Int.reduceAdd, and_false, false_and, and_true, true_and, if_false, if_true, reduceIte, eq_self, and_self]; exact p0
  · unfold am0; simp only [hs_app, Int.reduceEq, Int.reduceAdd, and_false, false_and, and_true, true_and, if_false, if_true, reduceIte, eq_self, and_self]
  · unfold am0
    rw [hs_ne (by decide), hs_ne (by decide), hs_ne (by decide), hs_ne (by decide), hs_ne (by decide), hs_ne (by decide), hs_ne (by decide), hs_ne (by decide), hs_ne (by decide), hs_ne (by decide)]
    exact e72
  · unfold am0; simp only [hs_app, Int.reduceEq, Int.reduceAdd, and_false, false_and, and_true, true_and, if_false, if_true, reduceIte, eq_self, and_self]; rfl
  · unfold am0; simp only [hs_app, Int.reduceEq, Int.reduceAdd, and_false, false_and, and_true, true_and, if_false, if_true, reduceIte, eq_self, and_self]
  · unfold am0; simp only [hs_app, Int.reduceEq, Int.reduceAdd, and_false, false_and, and_true, true_and, if_false, if_true, reduceIte, eq_self, and_self]
  · unfold am0; simp only [hs_app, Int.reduceEq, Int.reduceAdd, and_false, false_and, and_true, true_and, if_false, if_true, reduceIte, eq_self, and_self]
  · unfold am0; simp only [hs_app, Int.reduceEq, Int.reduceAdd, and_false, false_and, and_true, true_and, if_false, if_true, reduceIte, eq_self, and_self]; rfl
  · unfold am0; simp only [hs_app, Int.reduceEq, Int.reduceAdd, and_false, false_and, and_true, true_and, if_false, if_true, reduceIte, eq_self, and_self]; rfl
  · unfold am0; simp only [hs_app, Int.reduceEq, Int.reduceAdd, and_false, false_and, and_true, true_and, if_false, if_true, reduceIte, eq_self, and_self]; rfl
  · unfold am0; simp only [hs_app, Int.reduceEq, Int.reduceAdd, and_false, false_and, and_true, true_and, if_false, if_true, reduceIte, eq_self, and_self]; rfl
theorem am0_1 {e : Int} : am0 H e 71 1 = 0 := by unfold am0; simp only [hs_app, Int.reduceEq, Int.reduceAdd, and_false, false_and, and_true, true_and, if_false, if_true, reduceIte, eq_self, and_self]
set_option maxRecDepth 20000 in
theorem c_qKind (hT : TapeR V) (hPB : Ptr B) (hWB : Wds B) (h : MQs V B H a j [] [] 0 0) {w : Nat} (hw : wrI V a j QW = w) (h5 : w ≤ 5) (hQ : ∀ H', MQs V B H' (skE V (enE V a)) (enE V a) [] [] 0 0 → Q (vi w) H') : CC (d + 4) MO_qKind [va 71] H Q := by
  have hm := h.mv
  have f := mq_f (h.ptr hPB)
  have f2 := mq_f (hm.1.ptr hPB)
  have sm := hm.same
  have n0 := fun (q : ¬ w = 0) {Q} => MQs.takesN (d := d + 1) (Q := Q) hT hWB h (i := 0) (c := 119) (by decide) rfl (by omega)
  have n1 := fun (q : ¬ w = 1) {Q} => MQs.takesN (d := d + 1) (Q := Q) hT hWB hm.1 (i := 1) (c := 120) (by decide) rfl (by omega)
  have n2 := fun (q : ¬ w = 2) {Q} => MQs.takesN (d := d + 1) (Q := Q) hT hWB hm.1 (i := 2) (c := 121) (by decide) rfl (by omega)
  have n3 := fun (q : ¬ w = 3) {Q} => MQs.takesN (d := d + 1) (Q := Q) hT hWB hm.1 (i := 3) (c := 122) (by decide) rfl (by omega)
  have n4 := fun (q : ¬ w = 4) {Q} => MQs.takesN (d := d + 1) (Q := Q) hT hWB hm.1 (i := 4) (c := 123) (by decide) rfl (by omega)
  have y0 := fun (q : w = 0) {Q} => MQs.takesY (d := d + 1) (Q := Q) hT hWB h (i := 0) (c := 119) (by decide) rfl (by omega)
  have y1 := fun (q : w = 1) {Q} => MQs.takesY (d := d + 1) (Q := Q) hT hWB hm.1 (i := 1) (c := 120) (by decide) rfl (by omega)
  have y2 := fun (q : w = 2) {Q} => MQs.takesY (d := d + 1) (Q := Q) hT hWB hm.1 (i := 2) (c := 121) (by decide) rfl (by omega)
  have y3 := fun (q : w = 3) {Q} => MQs.takesY (d := d + 1) (Q := Q) hT hWB hm.1 (i := 3) (c := 122) (by decide) rfl (by omega)
  have y4 := fun (q : w = 4) {Q} => MQs.takesY (d := d + 1) (Q := Q) hT hWB hm.1 (i := 4) (c := 123) (by decide) rfl (by omega)
  have y5 := fun (q : w = 5) {Q} => MQs.asksY (d := d) (Q := Q) hT hWB hm.1 (i := 5) (c := 124) (by decide) rfl (by omega)
  have e0 := h.pass
  have e1 := hm.1.pass
  rw [sm] at n1 n2 n3 n4 y1 y2 y3 y4 y5 e1
  have k1 := hQ _ e1
  clear hQ e1 h hm
  have cs : w = 0 ∨ w = 1 ∨ w = 2 ∨ w = 3 ∨ w = 4 ∨ w = 5 := by clear f f2; omega
  rcases cs with rfl | rfl | rfl | rfl | rfl | rfl
  · have y0 := fun {Q} => y0 rfl (Q := Q)
    clear n0 n1 n2 n3 n4 y1 y2 y3 y4 y5
    simp only [en_MO_qKind, e_MO_qKind_0, k_MO_qKind_0, e_MO_qKind_6, k_MO_qKind_6, e_MO_qKind_7, k_MO_qKind_7, rr, sh, Nat.reduceLT, Nat.reduceMul, Int.reduceToNat, Int.reduceGT, Int.reduceGE, Int.reduceNe, true_and, and_true, true_or, or_true, false_or, or_false, and_self, or_self, if_true, if_false, reduceIte, not_true_eq_false, not_false_eq_true, Int.reduceEq, Int.reduceNe, Int.reduceLT, Int.reduceLE, Int.reduceAdd, Int.reduceSub, Int.reduceMul, Int.reduceNeg, Nat.reduceAdd, Nat.reduceLeDiff, Nat.reduceEqDiff, ne_eq, List.length_cons, List.length_nil, Nat.reduceSub, f, y0]
    exact k1
  · have y1 := fun {Q} => y1 rfl (Q := Q)
    have n0 := fun {Q} => n0 (by decide) (Q := Q)
    clear n1 n2 n3 n4 y0 y2 y3 y4 y5
    simp only [en_MO_qKind, e_MO_qKind_0, k_MO_qKind_0, e_MO_qKind_1, k_MO_qKind_1, e_MO_qKind_6, k_MO_qKind_6, e_MO_qKind_7, k_MO_qKind_7, rr, sh, Nat.reduceLT, Nat.reduceMul, Int.reduceToNat, Int.reduceGT, Int.reduceGE, Int.reduceNe, true_and, and_true, true_or, or_true, false_or, or_false, and_self, or_self, if_true, if_false, reduceIte, not_true_eq_false, not_false_eq_true, Int.reduceEq, Int.reduceNe, Int.reduceLT, Int.reduceLE, Int.reduceAdd, Int.reduceSub, Int.reduceMul, Int.reduceNeg, Nat.reduceAdd, Nat.reduceLeDiff, Nat.reduceEqDiff, ne_eq, List.length_cons, List.length_nil, Nat.reduceSub, f, f2, n0, y1]
    exact k1
  · have y2 := fun {Q} => y2 rfl (Q := Q)
    have n0 := fun {Q} => n0 (by decide) (Q := Q)
    have n1 := fun {Q} => n1 (by decide) (Q := Q)
    clear n2 n3 n4 y0 y1 y3 y4 y5
    simp only [en_MO_qKind, e_MO_qKind_0, k_MO_qKind_0, e_MO_qKind_1, k_MO_qKind_1, e_MO_qKind_2, k_MO_qKind_2, e_MO_qKind_6, k_MO_qKind_6, e_MO_qKind_7, k_MO_qKind_7, rr, sh, Nat.reduceLT, Nat.reduceMul, Int.reduceToNat, Int.reduceGT, Int.reduceGE, Int.reduceNe, true_and, and_true, true_or, or_true, false_or, or_false, and_self, or_self, if_true, if_false, reduceIte, not_true_eq_false, not_false_eq_true, Int.reduceEq, Int.reduceNe, Int.reduceLT, Int.reduceLE, Int.reduceAdd, Int.reduceSub, Int.reduceMul, Int.reduceNeg, Nat.reduceAdd, Nat.reduceLeDiff, Nat.reduceEqDiff, ne_eq, List.length_cons, List.length_nil, Nat.reduceSub, f, f2, n0, n1, y2]
    exact k1
  · have y3 := fun {Q} => y3 rfl (Q := Q)
    have n0 := fun {Q} => n0 (by decide) (Q := Q)
    have n1 := fun {Q} => n1 (by decide) (Q := Q)
    have n2 := fun {Q} => n2 (by decide) (Q := Q)
    clear n3 n4 y0 y1 y2 y4 y5
    simp only [en_MO_qKind, e_MO_qKind_0, k_MO_qKind_0, e_MO_qKind_1, k_MO_qKind_1, e_MO_qKind_2, k_MO_qKind_2, e_MO_qKind_3, k_MO_qKind_3, e_MO_qKind_6, k_MO_qKind_6, e_MO_qKind_7, k_MO_qKind_7, rr, sh, Nat.reduceLT, Nat.reduceMul, Int.reduceToNat, Int.reduceGT, Int.reduceGE, Int.reduceNe, true_and, and_true, true_or, or_true, false_or, or_false, and_self, or_self, if_true, if_false, reduceIte, not_true_eq_false, not_false_eq_true, Int.reduceEq, Int.reduceNe, Int.reduceLT, Int.reduceLE, Int.reduceAdd, Int.reduceSub, Int.reduceMul, Int.reduceNeg, Nat.reduceAdd, Nat.reduceLeDiff, Nat.reduceEqDiff, ne_eq, List.length_cons, List.length_nil, Nat.reduceSub, f, f2, n0, n1, n2, y3]
    exact k1
  · have y4 := fun {Q} => y4 rfl (Q := Q)
    have n0 := fun {Q} => n0 (by decide) (Q := Q)
    have n1 := fun {Q} => n1 (by decide) (Q := Q)
    have n2 := fun {Q} => n2 (by decide) (Q := Q)
    have n3 := fun {Q} => n3 (by decide) (Q := Q)
    clear n4 y0 y1 y2 y3 y5
    simp only [en_MO_qKind, e_MO_qKind_0, k_MO_qKind_0, e_MO_qKind_1, k_MO_qKind_1, e_MO_qKind_2, k_MO_qKind_2, e_MO_qKind_3, k_MO_qKind_3, e_MO_qKind_4, k_MO_qKind_4, e_MO_qKind_6, k_MO_qKind_6, e_MO_qKind_7, k_MO_qKind_7, rr, sh, Nat.reduceLT, Nat.reduceMul, Int.reduceToNat, Int.reduceGT, Int.reduceGE, Int.reduceNe, true_and, and_true, true_or, or_true, false_or, or_false, and_self, or_self, if_true, if_false, reduceIte, not_true_eq_false, not_false_eq_true, Int.reduceEq, Int.reduceNe, Int.reduceLT, Int.reduceLE, Int.reduceAdd, Int.reduceSub, Int.reduceMul, Int.reduceNeg, Nat.reduceAdd, Nat.reduceLeDiff, Nat.reduceEqDiff, ne_eq, List.length_cons, List.length_nil, Nat.reduceSub, f, f2, n0, n1, n2, n3, y4]
    exact k1
  · have y5 := fun {Q} => y5 rfl (Q := Q)
    have n0 := fun {Q} => n0 (by decide) (Q := Q)
    have n1 := fun {Q} => n1 (by decide) (Q := Q)
    have n2 := fun {Q} => n2 (by decide) (Q := Q)
    have n3 := fun {Q} => n3 (by decide) (Q := Q)
    have n4 := fun {Q} => n4 (by decide) (Q := Q)
    clear y0 y1 y2 y3 y4
    simp only [en_MO_qKind, e_MO_qKind_0, k_MO_qKind_0, e_MO_qKind_1, k_MO_qKind_1, e_MO_qKind_2, k_MO_qKind_2, e_MO_qKind_3, k_MO_qKind_3, e_MO_qKind_4, k_MO_qKind_4, e_MO_qKind_5, k_MO_qKind_5, e_MO_qKind_6, k_MO_qKind_6, e_MO_qKind_7, k_MO_qKind_7, rr, sh, Nat.reduceLT, Nat.reduceMul, Int.reduceToNat, Int.reduceGT, Int.reduceGE, Int.reduceNe, true_and, and_true, true_or, or_true, false_or, or_false, and_self, or_self, if_true, if_false, reduceIte, not_true_eq_false, not_false_eq_true, Int.reduceEq, Int.reduceNe, Int.reduceLT, Int.reduceLE, Int.reduceAdd, Int.reduceSub, Int.reduceMul, Int.reduceNeg, Nat.reduceAdd, Nat.reduceLeDiff, Nat.reduceEqDiff, ne_eq, List.length_cons, List.length_nil, Nat.reduceSub, f, f2, n0, n1, n2, n3, n4, y5]
    exact k1
set_option maxRecDepth 20000 in
theorem c_qKindN (hT : TapeR V) (hPB : Ptr B) (hWB : Wds B) (h : MQs V B H a j [] [] 0 0) {w : Int} (hw : wrI V a j QW = w) (hn : w < 0 ∨ 5 < w) (hQ : Q (vi 5) (hs (hs (hs H 71 2 a) 71 5 1) 71 6 a)) : CC (d + 4) MO_qKind [va 71] H Q := by
  have hm := h.mv
  have f := mq_f (h.ptr hPB)
  have f2 := mq_f (hm.1.ptr hPB)
  have sm := hm.same
  have n0 := fun {Q} => MQs.takesN (d := d + 1) (Q := Q) hT hWB h (i := 0) (c := 119) (by decide) rfl (by omega)
  have n1 := fun {Q} => MQs.takesN (d := d + 1) (Q := Q) hT hWB hm.1 (i := 1) (c := 120) (by decide) rfl (by omega)
  have n2 := fun {Q} => MQs.takesN (d := d + 1) (Q := Q) hT hWB hm.1 (i := 2) (c := 121) (by decide) rfl (by omega)
  have n3 := fun {Q} => MQs.takesN (d := d + 1) (Q := Q) hT hWB hm.1 (i := 3) (c := 122) (by decide) rfl (by omega)
  have n4 := fun {Q} => MQs.takesN (d := d + 1) (Q := Q) hT hWB hm.1 (i := 4) (c := 123) (by decide) rfl (by omega)
  have hq := chQ (hm.1.wds hWB) (i := 5) (by decide)
  have eh : hereB V a j (QW.getD 5 []) = false := by rw [here_q (by decide)]; exact decide_eq_false (by omega)
  have y5 : ∀ {Q : AV → Hp → Prop}, CC (d + 3) MO_asks [va 71, va 124] (hs H 71 2 a) Q = Q vu (hs (hs (hs H 71 2 a) 71 5 1) 71 6 a) := fun {Q} => by
    have t := q_asks (d := d) (Q := Q) hT hm.2.1.1 hm.2.1.2.1 hm.2.1.2.2.2.2.2 hm.2.1.2.2.1 hm.2.1.2.2.2.1 hq.2.2 hq.1 hq.2.1
    rw [eh, if_neg (by decide), hm.2.2, sm] at t
    exact t
  rw [sm] at n1 n2 n3 n4
  simp only [en_MO_qKind, e_MO_qKind_0, k_MO_qKind_0, e_MO_qKind_1, k_MO_qKind_1, e_MO_qKind_2, k_MO_qKind_2, e_MO_qKind_3, k_MO_qKind_3, e_MO_qKind_4, k_MO_qKind_4, e_MO_qKind_5, k_MO_qKind_5, e_MO_qKind_6, k_MO_qKind_6, e_MO_qKind_7, k_MO_qKind_7, rr, sh, Nat.reduceLT, Nat.reduceMul, Int.reduceToNat, Int.reduceGT, Int.reduceGE, Int.reduceNe, true_and, and_true, true_or, or_true, false_or, or_false, and_self, or_self, if_true, if_false, reduceIte, not_true_eq_false, not_false_eq_true, Int.reduceEq, Int.reduceNe, Int.reduceLT, Int.reduceLE, Int.reduceAdd, Int.reduceSub, Int.reduceMul, Int.reduceNeg, Nat.reduceAdd, Nat.reduceLeDiff, Nat.reduceEqDiff, ne_eq, List.length_cons, List.length_nil, Nat.reduceSub, f, f2, n0, n1, n2, n3, n4, y5]
  exact hQ
set_option maxRecDepth 20000 in
/-- no question's word: a fault -/
theorem c_askN (hT : TapeR V) (hP : Ptr H) (hW : Wds H) (e72 : H 72 = V 72) (e1 : H 71 1 = tpN V) {w : Int} (hw : wrI V (skE V 0) (-1) QW = w) (hn : w < 0 ∨ 5 < w)
    (hE : ∀ H', Fx sQN H H' → H' 71 5 = 1 → H' 71 6 = skE V 0 → H' 71 1 = 0 → R (d + 10) MO_ask (blk MO_ask 3) [va 71, vi 5, vu, vu] [] H' Q) : CC (d + 10) MO_ask [va 71] H Q := by
  have F0 := am0_fx (H := H) (e := tpN V)
  have P0 : Ptr (am0 H (tpN V)) := ptr_fx hP F0 (by decide +kernel)
  have W0 : Wds (am0 H (tpN V)) := wds_fx hW F0 (by decide +kernel)
  have h0 := am0_m hP e72
  have e5 : hs (hs (hs (am0 H (tpN V)) 71 2 (skE V 0)) 71 5 1) 71 6 (skE V 0) 71 5 = 1 := (hs2 (by decide)).trans hs_same
  have x1 : hs (hs (hs (am0 H (tpN V)) 71 2 (skE V 0)) 71 5 1) 71 6 (skE V 0) 71 1 = 0 := by simp only [hs_app, Int.reduceEq, Int.reduceAdd, and_false, false_and, and_true, true_and, if_false, if_true, reduceIte, eq_self, and_self]; exact am0_1
  have fin := hE _ (((F0.hs (c := 71) (j := 2) rfl).hs (c := 71) (j := 5) rfl).hs (c := 71) (j := 6) rfl) e5 hs_same x1
  simp only [en_MO_ask, e_MO_ask_0, k_MO_ask_0, rr, sh, Nat.reduceLT, Nat.reduceMul, Int.reduceToNat, Int.reduceGT, Int.reduceGE, Int.reduceNe, true_and, and_true, true_or, or_true, false_or, or_false, and_self, or_self, if_true, if_false, reduceIte, not_true_eq_false, not_false_eq_true, Int.reduceEq, Int.reduceNe, Int.reduceLT, Int.reduceLE, Int.reduceAdd, Int.reduceSub, Int.reduceMul, Int.reduceNeg, Nat.reduceAdd, Nat.reduceLeDiff, Nat.reduceEqDiff, ne_eq, List.length_cons, List.length_nil, Nat.reduceSub, hs_app, false_and, and_false, e1]
  rw [show hs (hs (hs (hs (hs (hs (hs (hs (hs (hs H 71 3 (tpN V)) 71 1 0) 71 2 0) 71 4 (-1)) 71 5 0) 71 6 (-1)) 71 88 0) 71 90 0) 71 91 0) 71 92 0 = am0 H (tpN V) from rfl]
  refine c_qKindN (d := d + 5) hT P0 W0 h0 hw hn ?_
  simp only [e_MO_ask_1, k_MO_ask_1, e_MO_ask_2, k_MO_ask_2, rr, sh, Nat.reduceLT, Nat.reduceMul, Int.reduceToNat, Int.reduceGT, Int.reduceGE, Int.reduceNe, true_and, and_true, true_or, or_true, false_or, or_false, and_self, or_self, if_true, if_false, reduceIte, not_true_eq_false, not_false_eq_true, Int.reduceEq, Int.reduceNe, Int.reduceLT, Int.reduceLE, Int.reduceAdd, Int.reduceSub, Int.reduceMul, Int.reduceNeg, Nat.reduceAdd, Nat.reduceLeDiff, Nat.reduceEqDiff, ne_eq, List.length_cons, List.length_nil, Nat.reduceSub, e5]
  exact fin
end QR2
