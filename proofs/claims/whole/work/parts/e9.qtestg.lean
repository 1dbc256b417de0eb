/-! QUESTIONS: the reference's tests, behind a fact -/
def lT (d : Nat) (Q : AV → Hp → Prop) : AV → Hp → Prop := fun r H => ∀ y2 : AV, R (d + 9) MO_qTest [x_ifeq 4, x_ic 1, x_go 5] [va 71, vi 1, y2] [r] H Q
def GTq (V B : Hp) (d : Nat) (Q : AV → Hp → Prop) (a : Nat) (j : Int) (C W : List Int) (o : Nat) : Prop := ∀ H : Hp, MQs V B H a j C W o 0 → R (d + 8) MO_qGoesOnTest (blk MO_qGoesOnTest 0) [va 71] [] H (lT d Q)
def TKq (V B : Hp) (d : Nat) (Q : AV → Hp → Prop) (a : Nat) (j : Int) (C W : List Int) (o : Nat) : Prop := ∀ (H : Hp) (y2 : AV), MQs V B H a j C W o 0 → R (d + 9) MO_qTest (blk MO_qTest 1) [va 71, vi 1, y2] [] H Q
section QT2
variable {d : Nat} {V B H : Hp} {Q : AV → Hp → Prop} {a : Nat} {j : Int} {C W : List Int} {o b : Nat}
theorem sq_at {X s : List Int} : X.length < ((X ++ [25]) ++ s.reverse).length ∧ isSq (((X ++ [25]) ++ s.reverse).getD X.length 0) := by
  constructor
  · simp only [List.length_append, List.length_cons, List.length_nil]; omega
  · rw [List.getD_eq_getElem?_getD, List.getElem?_append_left (by rw [len_s]; omega), ← List.getD_eq_getElem?_getD, getD_ap0]
    rfl
theorem ltq_1 (h : ∀ y2 : AV, R (d + 9) MO_qTest (blk MO_qTest 1) [va 71, vi 1, y2] [] H Q) : lT d Q (vi 1) H := by
  unfold lT
  intro y2
  have := h y2
  simp only [e_MO_qTest_5, k_MO_qTest_5, rr, sh, Nat.reduceLT, Nat.reduceMul, Int.reduceToNat, Int.reduceGT, Int.reduceGE, Int.reduceNe, true_and, and_true, true_or, or_true, false_or, or_false, and_self, or_self, if_true, if_false, reduceIte, not_true_eq_false, not_false_eq_true, Int.reduceEq, Int.reduceNe, Int.reduceLT, Int.reduceLE, Int.reduceAdd, Int.reduceSub, Int.reduceMul, Int.reduceNeg, Nat.reduceAdd, Nat.reduceLeDiff, Nat.reduceEqDiff, ne_eq, List.length_cons, List.length_nil, Nat.reduceSub]
  exact this
theorem ltq_0 (h : ∀ y2 : AV, R (d + 9) MO_qTest (blk MO_qTest 6) [va 71, vi 0, y2] [] H Q) : lT d Q (vi 0) H := by
  unfold lT
  intro y2
  have := h y2
  simp only [e_MO_qTest_4, k_MO_qTest_4, e_MO_qTest_5, k_MO_qTest_5, rr, sh, Nat.reduceLT, Nat.reduceMul, Int.reduceToNat, Int.reduceGT, Int.reduceGE, Int.reduceNe, true_and, and_true, true_or, or_true, false_or, or_false, and_self, or_self, if_true, if_false, reduceIte, not_true_eq_false, not_false_eq_true, Int.reduceEq, Int.reduceNe, Int.reduceLT, Int.reduceLE, Int.reduceAdd, Int.reduceSub, Int.reduceMul, Int.reduceNeg, Nat.reduceAdd, Nat.reduceLeDiff, Nat.reduceEqDiff, ne_eq, List.length_cons, List.length_nil, Nat.reduceSub]
  rw [e_MO_qTest_1]
  simp only [k_MO_qTest_1, rr, sh, Nat.reduceLT, Nat.reduceMul, Int.reduceToNat, Int.reduceGT, Int.reduceGE, Int.reduceNe, true_and, and_true, true_or, or_true, false_or, or_false, and_self, or_self, if_true, if_false, reduceIte, not_true_eq_false, not_false_eq_true, Int.reduceEq, Int.reduceNe, Int.reduceLT, Int.reduceLE, Int.reduceAdd, Int.reduceSub, Int.reduceMul, Int.reduceNeg, Nat.reduceAdd, Nat.reduceLeDiff, Nat.reduceEqDiff, ne_eq, List.length_cons, List.length_nil, Nat.reduceSub]
  exact this
theorem t_bad6 {x : Int} {y2 : AV} (h5 : ¬ H 71 5 = 0) (hQ : Q vu H) : R (d + 9) MO_qTest (blk MO_qTest 6) [va 71, vi x, y2] [] H Q := by
  rw [e_MO_qTest_6]
  simp only [k_MO_qTest_6, e_MO_qTest_7, k_MO_qTest_7, rr, sh, Nat.reduceLT, Nat.reduceMul, Int.reduceToNat, Int.reduceGT, Int.reduceGE, Int.reduceNe, true_and, and_true, true_or, or_true, false_or, or_false, and_self, or_self, if_true, if_false, reduceIte, not_true_eq_false, not_false_eq_true, Int.reduceEq, Int.reduceNe, Int.reduceLT, Int.reduceLE, Int.reduceAdd, Int.reduceSub, Int.reduceMul, Int.reduceNeg, Nat.reduceAdd, Nat.reduceLeDiff, Nat.reduceEqDiff, ne_eq, List.length_cons, List.length_nil, Nat.reduceSub, h5]
  exact hQ
theorem t_bad1 {x : Int} {y2 : AV} (h5 : ¬ H 71 5 = 0) (hQ : Q vu H) : R (d + 9) MO_qTest (blk MO_qTest 1) [va 71, vi x, y2] [] H Q := by
  have h6 := fun {x : Int} {y2 : AV} => t_bad6 (d := d) (x := x) (y2 := y2) h5 hQ
  rw [e_MO_qTest_1]
  by_cases c : x = 0
  · subst c
    simp only [k_MO_qTest_1, rr, sh, Nat.reduceLT, Nat.reduceMul, Int.reduceToNat, Int.reduceGT, Int.reduceGE, Int.reduceNe, true_and, and_true, true_or, or_true, false_or, or_false, and_self, or_self, if_true, if_false, reduceIte, not_true_eq_false, not_false_eq_true, Int.reduceEq, Int.reduceNe, Int.reduceLT, Int.reduceLE, Int.reduceAdd, Int.reduceSub, Int.reduceMul, Int.reduceNeg, Nat.reduceAdd, Nat.reduceLeDiff, Nat.reduceEqDiff, ne_eq, List.length_cons, List.length_nil, Nat.reduceSub]
    exact h6
  · simp only [k_MO_qTest_1, rr, sh, Nat.reduceLT, Nat.reduceMul, Int.reduceToNat, Int.reduceGT, Int.reduceGE, Int.reduceNe, true_and, and_true, true_or, or_true, false_or, or_false, and_self, or_self, if_true, if_false, reduceIte, not_true_eq_false, not_false_eq_true, Int.reduceEq, Int.reduceNe, Int.reduceLT, Int.reduceLE, Int.reduceAdd, Int.reduceSub, Int.reduceMul, Int.reduceNeg, Nat.reduceAdd, Nat.reduceLeDiff, Nat.reduceEqDiff, ne_eq, List.length_cons, List.length_nil, Nat.reduceSub, c, h5]
    exact h6
theorem t_bad4 (h5 : ¬ H 71 5 = 0) (hQ : Q vu H) : lT d Q (vi 0) H := ltq_0 fun y2 => t_bad6 h5 hQ
set_option maxRecDepth 20000 in
/-- at the end all that waits is told -/
theorem t_end6 (hT : TapeR V) (hPB : Ptr B) {y2 : AV} : ∀ (r : List Int) (C : List Int) (H : Hp), MQs V B H a j C r.reverse o 0 → (∀ H', MQs V B H' a j (C ++ r) [] o 0 → Q vu H') → R (d + 9) MO_qTest (blk MO_qTest 6) [va 71, vi 0, y2] [] H Q
  | [], C, H, h, hQ => by
    rw [List.reverse_nil] at h
    have := hQ H (by rw [List.append_nil]; exact h)
    have k5 := h.k5
    have w1 : H 71 90 = 0 := h.2.2.1.1
    rw [e_MO_qTest_6]
    simp only [k_MO_qTest_6, e_MO_qTest_7, k_MO_qTest_7, rr, sh, Nat.reduceLT, Nat.reduceMul, Int.reduceToNat, Int.reduceGT, Int.reduceGE, Int.reduceNe, true_and, and_true, true_or, or_true, false_or, or_false, and_self, or_self, if_true, if_false, reduceIte, not_true_eq_false, not_false_eq_true, Int.reduceEq, Int.reduceNe, Int.reduceLT, Int.reduceLE, Int.reduceAdd, Int.reduceSub, Int.reduceMul, Int.reduceNeg, Nat.reduceAdd, Nat.reduceLeDiff, Nat.reduceEqDiff, ne_eq, List.length_cons, List.length_nil, Nat.reduceSub, k5, w1, Int.le_refl]
    exact this
  | x :: r, C, H, h, hQ => by
    rw [List.reverse_cons] at h
    obtain ⟨t1, t2, t3, t4, t5⟩ := wtop hT h
    have k5 := h.k5
    have ih := fun H' h' => t_end6 hT hPB (y2 := y2) r (C ++ [x]) H' h' (fun H2 h2 => hQ H2 (by rw [← app_c]; exact h2))
    clear hQ
    rw [e_MO_qTest_6]
    simp only [k_MO_qTest_6, rr, sh, Nat.reduceLT, Nat.reduceMul, Int.reduceToNat, Int.reduceGT, Int.reduceGE, Int.reduceNe, true_and, and_true, true_or, or_true, false_or, or_false, and_self, or_self, if_true, if_false, reduceIte, not_true_eq_false, not_false_eq_true, Int.reduceEq, Int.reduceNe, Int.reduceLT, Int.reduceLE, Int.reduceAdd, Int.reduceSub, Int.reduceMul, Int.reduceNeg, Nat.reduceAdd, Nat.reduceLeDiff, Nat.reduceEqDiff, ne_eq, List.length_cons, List.length_nil, Nat.reduceSub, k5, t1, t5]
    exact c_qDrops hT hPB h ih
theorem wr_ns (hT : TapeR V) (h : MQs V B H a j C W o b) {w : Int} (hw : wrI V a j QW = w) (h0 : 0 ≤ w) : ¬ bz V a = 93 ∧ ¬ bz V a = 91 := by
  have := ltB_rng (wr_dg hT h.sk.1 hw h0)
  exact ⟨by omega, by omega⟩
theorem gt_push (hT : TapeR V) (hPB : Ptr B) (h : MQs V B H a j C W o b) (hl : C.length + W.length + 1 ≤ a) (hb : b = 0) : (TKq V B d Q a j C (W ++ [10]) o → R (d + 8) MO_qGoesOnTest (blk MO_qGoesOnTest 5) [va 71] [] H (lT d Q)) ∧ (TKq V B d Q a j C (W ++ [11]) o → R (d + 8) MO_qGoesOnTest (blk MO_qGoesOnTest 9) [va 71] [] H (lT d Q)) := by
  subst hb
  have p89 : H 71 89 = 137 := h.ptr hPB (71, 89, 137) (by decide +kernel)
  have w1 := h.2.2.1.1
  have b1 : W.length < 1700 := Nat.lt_of_le_of_lt (Nat.le_trans (Nat.le_add_left _ _) (Nat.le_trans h.2.2.2.2.2.1 (Nat.le_trans h.sk.2 (tpN_le hT)))) (by decide)
  have j1 : 0 ≤ (W.length : Int) ∧ (W.length : Int) < 1700 := ix_n b1
  have kw := w32_s (n := W.length) (Nat.lt_trans b1 (by decide))
  constructor
  · intro hn
    have fin : lT d Q (vi 1) (hs (hs H 137 (W.length : Nat) 10) 71 90 ((W.length + 1 : Nat) : Int)) := ltq_1 fun y2 => hn _ y2 (h.wpush hl)
    simp only [e_MO_qGoesOnTest_5, k_MO_qGoesOnTest_5, rr, sh, Nat.reduceLT, Nat.reduceMul, Int.reduceToNat, Int.reduceGT, Int.reduceGE, Int.reduceNe, true_and, and_true, true_or, or_true, false_or, or_false, and_self, or_self, if_true, if_false, reduceIte, not_true_eq_false, not_false_eq_true, Int.reduceEq, Int.reduceNe, Int.reduceLT, Int.reduceLE, Int.reduceAdd, Int.reduceSub, Int.reduceMul, Int.reduceNeg, Nat.reduceAdd, Nat.reduceLeDiff, Nat.reduceEqDiff, ne_eq, List.length_cons, List.length_nil, Nat.reduceSub, hs_app, false_and, and_false, p89, w1, j1, kw]
    exact fin
  · intro hn
    have fin : lT d Q (vi 1) (hs (hs H 137 (W.length : Nat) 11) 71 90 ((W.length + 1 : Nat) : Int)) := ltq_1 fun y2 => hn _ y2 (h.wpush hl)
    simp only [e_MO_qGoesOnTest_9, k_MO_qGoesOnTest_9, rr, sh, Nat.reduceLT, Nat.reduceMul, Int.reduceToNat, Int.reduceGT, Int.reduceGE, Int.reduceNe, true_and, and_true, true_or, or_true, false_or, or_false, and_self, or_self, if_true, if_false, reduceIte, not_true_eq_false, not_false_eq_true, Int.reduceEq, Int.reduceNe, Int.reduceLT, Int.reduceLE, Int.reduceAdd, Int.reduceSub, Int.reduceMul, Int.reduceNeg, Nat.reduceAdd, Nat.reduceLeDiff, Nat.reduceEqDiff, ne_eq, List.length_cons, List.length_nil, Nat.reduceSub, hs_app, false_and, and_false, p89, w1, j1, kw]
    exact fin
set_option maxRecDepth 20000 in
theorem gt_and (hT : TapeR V) (hPB : Ptr B) (hWB : Wds B) {r : List Int} (hw : wrI V a j QW = 7) (hr : ∀ x ∈ r, isAn x) (ht : tpN' W isAn) (hn : TKq V B d Q (skE V (enE V a)) (enE V a) (C ++ r) (W ++ [10]) o) : GTq V B d Q a j C (W ++ r.reverse) o := by
  intro H h
  have hm := h.mv
  have k5 := h.k5
  have n93 := (wr_ns hT h hw (by decide)).1
  have lt := wr_gt hT h.sk.2 h.sk.1 hw (by decide)
  have sk := skE_rng (enE_rng h.sk.2).2.1
  have f := mq_f (hm.1.ptr hPB)
  have ts := fun {Q} => MQs.takesY (d := d + 5) (Q := Q) hT hWB hm.1 (i := 7) (c := 126) (by decide) rfl hw
  have l0 := h.2.2.2.2.2.1
  rw [List.length_append, List.length_reverse] at l0
  have fin := c_dropA (d := d + 5) (Q := lT d Q) hT hPB ht r C _ hr hm.1.pass (fun H' h' => (gt_push hT hPB h' (by rw [List.length_append]; omega) rfl).1 hn)
  rw [e_MO_qGoesOnTest_0]
  simp only [k_MO_qGoesOnTest_0, e_MO_qGoesOnTest_3, k_MO_qGoesOnTest_3, rr, sh, Nat.reduceLT, Nat.reduceMul, Int.reduceToNat, Int.reduceGT, Int.reduceGE, Int.reduceNe, true_and, and_true, true_or, or_true, false_or, or_false, and_self, or_self, if_true, if_false, reduceIte, not_true_eq_false, not_false_eq_true, Int.reduceEq, Int.reduceNe, Int.reduceLT, Int.reduceLE, Int.reduceAdd, Int.reduceSub, Int.reduceMul, Int.reduceNeg, Nat.reduceAdd, Nat.reduceLeDiff, Nat.reduceEqDiff, ne_eq, List.length_cons, List.length_nil, Nat.reduceSub, k5, h.look hT, n93, f, ts]
  exact fin
set_option maxRecDepth 20000 in
theorem gt_or (hT : TapeR V) (hPB : Ptr B) (hWB : Wds B) {r : List Int} (hw : wrI V a j QW = 6) (hr : ∀ x ∈ r, isAO x) (ht : tpN' W isAO) (hn : TKq V B d Q (skE V (enE V a)) (enE V a) (C ++ r) (W ++ [11]) o) : GTq V B d Q a j C (W ++ r.reverse) o := by
  intro H h
  have hm := h.mv
  have k5 := h.k5
  have n93 := (wr_ns hT h hw (by decide)).1
  have lt := wr_gt hT h.sk.2 h.sk.1 hw (by decide)
  have sk := skE_rng (enE_rng h.sk.2).2.1
  have f := mq_f (hm.1.ptr hPB)
  have t7 := fun {Q} => MQs.takesN (d := d + 5) (Q := Q) hT hWB hm.1 (i := 7) (c := 126) (by decide) rfl (by rw [hw]; decide)
  rw [hm.same] at t7
  have ts := fun {Q} => MQs.takesY (d := d + 5) (Q := Q) hT hWB hm.1 (i := 6) (c := 127) (by decide) rfl hw
  have l0 := h.2.2.2.2.2.1
  rw [List.length_append, List.length_reverse] at l0
  have fin := c_dropO (d := d + 5) (Q := lT d Q) hT hPB ht r C _ hr hm.1.pass (fun H' h' => (gt_push hT hPB h' (by rw [List.length_append]; omega) rfl).2 hn)
  rw [e_MO_qGoesOnTest_0]
  simp only [k_MO_qGoesOnTest_0, e_MO_qGoesOnTest_3, k_MO_qGoesOnTest_3, e_MO_qGoesOnTest_6, k_MO_qGoesOnTest_6, rr, sh, Nat.reduceLT, Nat.reduceMul, Int.reduceToNat, Int.reduceGT, Int.reduceGE, Int.reduceNe, true_and, and_true, true_or, or_true, false_or, or_false, and_self, or_self, if_true, if_false, reduceIte, not_true_eq_false, not_false_eq_true, Int.reduceEq, Int.reduceNe, Int.reduceLT, Int.reduceLE, Int.reduceAdd, Int.reduceSub, Int.reduceMul, Int.reduceNeg, Nat.reduceAdd, Nat.reduceLeDiff, Nat.reduceEqDiff, ne_eq, List.length_cons, List.length_nil, Nat.reduceSub, k5, h.look hT, n93, f, t7, ts]
  exact fin
set_option maxRecDepth 20000 in
/-- the test ends, no square bracket waits -/
theorem gt_end (hT : TapeR V) (hPB : Ptr B) (hWB : Wds B) {r : List Int} (h7 : ¬ wrI V a j QW = 7) (h6 : ¬ wrI V a j QW = 6) (hn : ∀ x ∈ r, ¬ isSq x) (hk : ∀ H', MQs V B H' a j (C ++ r) [] o 0 → Q vu H') : GTq V B d Q a j C r.reverse o := by
  intro H h
  have hm := h.mv
  have k5 := h.k5
  have k5' := hm.1.k5
  have f := mq_f (hm.1.ptr hPB)
  have t7 := fun {Q} => MQs.takesN (d := d + 5) (Q := Q) hT hWB hm.1 (i := 7) (c := 126) (by decide) rfl h7
  have t6 := fun {Q} => MQs.takesN (d := d + 5) (Q := Q) hT hWB hm.1 (i := 6) (c := 127) (by decide) rfl h6
  rw [hm.same] at t7 t6
  have qh := fun {Q} => q_hasN (d := d + 6) (Q := Q) hT hPB hm.1 (fun x hx => hn x (List.mem_reverse.mp hx))
  have fin : lT d Q (vi 0) (hs H 71 2 a) := ltq_0 fun y2 => t_end6 hT hPB r C _ hm.1 hk
  rw [e_MO_qGoesOnTest_0]
  by_cases c : bz V a = 93
  · simp only [k_MO_qGoesOnTest_0, e_MO_qGoesOnTest_3, k_MO_qGoesOnTest_3, e_MO_qGoesOnTest_6, k_MO_qGoesOnTest_6, e_MO_qGoesOnTest_10, k_MO_qGoesOnTest_10, e_MO_qGoesOnTest_11, k_MO_qGoesOnTest_11, rr, sh, Nat.reduceLT, Nat.reduceMul, Int.reduceToNat, Int.reduceGT, Int.reduceGE, Int.reduceNe, true_and, and_true, true_or, or_true, false_or, or_false, and_self, or_self, if_true, if_false, reduceIte, not_true_eq_false, not_false_eq_true, Int.reduceEq, Int.reduceNe, Int.reduceLT, Int.reduceLE, Int.reduceAdd, Int.reduceSub, Int.reduceMul, Int.reduceNeg, Nat.reduceAdd, Nat.reduceLeDiff, Nat.reduceEqDiff, ne_eq, List.length_cons, List.length_nil, Nat.reduceSub, k5, k5', h.look hT, c, f, t7, t6, qh]
    exact fin
  · simp only [k_MO_qGoesOnTest_0, e_MO_qGoesOnTest_3, k_MO_qGoesOnTest_3, e_MO_qGoesOnTest_6, k_MO_qGoesOnTest_6, e_MO_qGoesOnTest_10, k_MO_qGoesOnTest_10, e_MO_qGoesOnTest_11, k_MO_qGoesOnTest_11, rr, sh, Nat.reduceLT, Nat.reduceMul, Int.reduceToNat, Int.reduceGT, Int.reduceGE, Int.reduceNe, true_and, and_true, true_or, or_true, false_or, or_false, and_self, or_self, if_true, if_false, reduceIte, not_true_eq_false, not_false_eq_true, Int.reduceEq, Int.reduceNe, Int.reduceLT, Int.reduceLE, Int.reduceAdd, Int.reduceSub, Int.reduceMul, Int.reduceNeg, Nat.reduceAdd, Nat.reduceLeDiff, Nat.reduceEqDiff, ne_eq, List.length_cons, List.length_nil, Nat.reduceSub, k5, k5', h.look hT, c, f, t7, t6, qh]
    exact fin
set_option maxRecDepth 20000 in
/-- no closing square bracket where one is asked -/
theorem gt_fail (hT : TapeR V) (hPB : Ptr B) (hWB : Wds B) {m : Nat} (hm' : m < W.length) (hx : isSq (W.getD m 0)) (n93 : ¬ bz V a = 93) (h7 : ¬ wrI V a j QW = 7) (h6 : ¬ wrI V a j QW = 6) (hE : ErQ B (Q vu) 1 a) : GTq V B d Q a j C W o := by
  intro H h
  have hm := h.mv
  have k5 := h.k5
  have k5' := hm.1.k5
  have b2 : hs H 71 2 a 71 2 = a := hs_same
  have f := mq_f (hm.1.ptr hPB)
  have t7 := fun {Q} => MQs.takesN (d := d + 5) (Q := Q) hT hWB hm.1 (i := 7) (c := 126) (by decide) rfl h7
  have t6 := fun {Q} => MQs.takesN (d := d + 5) (Q := Q) hT hWB hm.1 (i := 6) (c := 127) (by decide) rfl h6
  rw [hm.same] at t7 t6
  have qh := fun {Q} => q_hasY (d := d + 6) (Q := Q) hT hPB hm.1 hm' hx
  have e5 : hs (hs (hs H 71 2 a) 71 5 1) 71 6 a 71 5 = 1 := (hs2 (by decide)).trans hs_same
  have fin : lT d Q (vi 0) (hs (hs (hs H 71 2 a) 71 5 1) 71 6 a) := t_bad4 (by rw [e5]; decide) (hE _ h.fail e5 hs_same (h.bcf hT))
  rw [e_MO_qGoesOnTest_0]
  simp only [k_MO_qGoesOnTest_0, e_MO_qGoesOnTest_3, k_MO_qGoesOnTest_3, e_MO_qGoesOnTest_6, k_MO_qGoesOnTest_6, e_MO_qGoesOnTest_10, k_MO_qGoesOnTest_10, e_MO_qGoesOnTest_11, k_MO_qGoesOnTest_11, rr, sh, Nat.reduceLT, Nat.reduceMul, Int.reduceToNat, Int.reduceGT, Int.reduceGE, Int.reduceNe, true_and, and_true, true_or, or_true, false_or, or_false, and_self, or_self, if_true, if_false, reduceIte, not_true_eq_false, not_false_eq_true, Int.reduceEq, Int.reduceNe, Int.reduceLT, Int.reduceLE, Int.reduceAdd, Int.reduceSub, Int.reduceMul, Int.reduceNeg, Nat.reduceAdd, Nat.reduceLeDiff, Nat.reduceEqDiff, ne_eq, List.length_cons, List.length_nil, Nat.reduceSub, k5, k5', b2, h.look hT, n93, f, t7, t6, qh, q_failM k5']
  exact fin
set_option maxRecDepth 20000 in
theorem gt_close (hT : TapeR V) (hPB : Ptr B) {W0 r s : List Int} {o' : Nat} (hs' : ∀ x ∈ s, ¬ isSq x) (ht : tpN' W0 isNt) (hr : ∀ x ∈ r, x = 12) (ho : o = o' + r.length + 1) (ho6 : o ≤ 6) (b93 : bz V a = 93) (hn : GTq V B d Q (skE V (a + 1)) j (C ++ s ++ r) W0 o') : GTq V B d Q a j C (((W0 ++ r.reverse) ++ [25]) ++ s.reverse) o := by
  intro H h
  have hm := h.mv
  have k5 := h.k5
  have hsg := hm.sign (by rw [b93]; decide)
  have b2 : hs H 71 2 a 71 2 = a := hs_same
  have n16 := tpN_le hT
  have aw := w32_s (n := a) (Nat.lt_of_le_of_lt (Nat.le_trans h.sk.2 n16) (by decide))
  have qh := fun {Q} => q_hasY (d := d + 6) (Q := Q) hT hPB hm.1 sq_at.1 sq_at.2
  have oo : o' + r.length ≤ 6 := by omega
  have ow : w32 (((o' + r.length + 1 : Nat) : Int) - 1) = ((o' + r.length : Nat) : Int) := w_sub (a := o' + r.length + 1) (b := 1) (Nat.le_add_left 1 _) (Nat.lt_of_le_of_lt (ho ▸ ho6) (by decide))
  subst ho
  have fin : ∀ H', MQs V B H' (skE V (a + 1)) j (C ++ s) ((W0 ++ r.reverse) ++ [25]) (o' + r.length + 1) 0 → R (d + 8) MO_qGoesOnTest (blk MO_qGoesOnTest 2) [va 71] [] H' (lT d Q) := by
    intro H' h'
    obtain ⟨t1, t2, t3, t4, -⟩ := wtop hT h'
    have o1 := h'.2.2.2.1
    have nd := c_nots (d := d + 5) (Q := fun _ H2 => R (d + 8) MO_qGoesOnTest (blk MO_qGoesOnTest 0) [va 71] [] H2 (lT d Q)) hT hPB ht r (C ++ s) _ hr oo (h'.pop.op (o' := o' + r.length)) (fun H2 h2 => hn H2 h2)
    simp only [e_MO_qGoesOnTest_2, k_MO_qGoesOnTest_2, rr, sh, Nat.reduceLT, Nat.reduceMul, Int.reduceToNat, Int.reduceGT, Int.reduceGE, Int.reduceNe, true_and, and_true, true_or, or_true, false_or, or_false, and_self, or_self, if_true, if_false, reduceIte, not_true_eq_false, not_false_eq_true, Int.reduceEq, Int.reduceNe, Int.reduceLT, Int.reduceLE, Int.reduceAdd, Int.reduceSub, Int.reduceMul, Int.reduceNeg, Nat.reduceAdd, Nat.reduceLeDiff, Nat.reduceEqDiff, ne_eq, List.length_cons, List.length_nil, Nat.reduceSub, hs_app, false_and, and_false, t1, t4, o1, ow, en_MO_qDropsNots]
    exact nd
  have dr := c_dropS (d := d + 5) (Q := lT d Q) hT hPB s C _ hs' hsg fin
  clear hn fin
  rw [e_MO_qGoesOnTest_0]
  simp only [k_MO_qGoesOnTest_0, rr, sh, Nat.reduceLT, Nat.reduceMul, Int.reduceToNat, Int.reduceGT, Int.reduceGE, Int.reduceNe, true_and, and_true, true_or, or_true, false_or, or_false, and_self, or_self, if_true, if_false, reduceIte, not_true_eq_false, not_false_eq_true, Int.reduceEq, Int.reduceNe, Int.reduceLT, Int.reduceLE, Int.reduceAdd, Int.reduceSub, Int.reduceMul, Int.reduceNeg, Nat.reduceAdd, Nat.reduceLeDiff, Nat.reduceEqDiff, ne_eq, List.length_cons, List.length_nil, Nat.reduceSub, k5, h.look hT, b93, qh, b2, aw]
  exact dr
end QT2
