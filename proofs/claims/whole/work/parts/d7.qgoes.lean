/-! QUESTIONS: the reference behind a part, all roads -/
section QZ4
variable {d : Nat} {V B : Hp} {K : Hp → Prop} {L : AV → Hp → Prop} {E : Hp → Prop} {a : Nat} {j : Int} {C W : List Int} {o b : Nat}
def BrW (W : List Int) (b : Nat) (br : Int) : Prop := ∃ n0 : Nat, n0 ≤ W.length ∧ b ≤ n0 ∧ (∀ k : Nat, n0 ≤ k → k < W.length → ¬ isBr (W.getD k 0)) ∧ ((n0 = b ∧ br = -1) ∨ ∃ m : Nat, n0 = m + 1 ∧ b ≤ m ∧ isBr (W.getD m 0) ∧ br = W.getD m 0)
theorem BrW.q {br : Int} (hw : BrW W b br) (hT : TapeR V) (hPB : Ptr B) {H : Hp} {Q : AV → Hp → Prop} (h : MQs V B H a j C W o b) : CC (d + 1) MO_qBracket [va 71] H Q = Q (vi br) H := by
  obtain ⟨n0, h1, h2, h3, h4⟩ := hw
  exact q_qBracket hT hPB h h1 h2 h3 h4
theorem tape_at (hT : TapeR V) {H : Hp} (h : MQa V B H a j C W o b) (lt : a < tpN V) {x : Int} : hs H 71 2 x 71 0 = 72 ∧ hs H 71 2 x 72 a = bz V a ∧ (0 ≤ (a : Int) ∧ (a : Int) < 1600) ∧ w32 (((a + 1 : Nat) : Int) - 1) = a := by
  refine ⟨(hs2 (by decide)).trans h.2.1.1.1, (hs_ne' (by decide)).trans (ma_72 hT h.2.1.1 lt), ix_n (Nat.lt_of_lt_of_le lt (tpN_le hT)), ?_⟩
  have := tpN_le hT
  rw [w32_id (by omega) (by omega)]
  omega
set_option maxRecDepth 20000 in
theorem g_times (hT : TapeR V) (hPB : Ptr B) (hc : KCtx (d + 6) K L E) {s : Int} {r : List Int} (hsg : (bz V a = 42 ∧ s = 3) ∨ (bz V a = 47 ∧ s = 4)) (hr : ∀ x ∈ r, x = 3 ∨ x = 4) (ht : tpN' W (fun x => x = 3 ∨ x = 4)) (hn : PKq V B (d + 6) K (skE V (a + 1)) j (C ++ r) (W ++ [s]) o b) : GKq V B (d + 6) L a j C (W ++ r.reverse) o b := by
  intro H y h
  have hm := h.mv
  have k5 := h.k5
  have lt := bz_in' (V := V) (k := a) rfl (by omega)
  have hs1 := hm.sign (by omega)
  obtain ⟨t0, t1, t2, t3⟩ := tape_at hT hm lt (x := ((a + 1 : Nat) : Int))
  have sk := (skE_rng (V := V) (a := a + 1) lt).1
  have l0 := h.2.2.2.2.2.1
  rw [List.length_append, List.length_reverse] at l0
  have fin := c_dropT (d := d + 3) (s := s) (Q := L) hT hPB ht r C _ hr hs1 (fun H' h' => (g_push11 hT hPB hc h' (by rw [List.length_append]; omega) hn).1)
  have b2 : hs (hs H 71 2 a) 71 2 ((a + 1 : Nat) : Int) 71 2 = ((a + 1 : Nat) : Int) := hs_same
  rw [e_MO_qGoesOn_0]
  rcases hsg with ⟨hb, rfl⟩ | ⟨hb, rfl⟩
  · rw [hb] at t1
    simp only [k_MO_qGoesOn_0, e_MO_qGoesOn_5, k_MO_qGoesOn_5, e_MO_qGoesOn_6, k_MO_qGoesOn_6, e_MO_qGoesOn_7, k_MO_qGoesOn_7, e_MO_qGoesOn_8, k_MO_qGoesOn_8, rr, sh, Nat.reduceLT, Nat.reduceMul, Int.reduceToNat, Int.reduceGT, Int.reduceGE, Int.reduceNe, true_and, and_true, true_or, or_true, false_or, or_false, and_self, or_self, if_true, if_false, reduceIte, not_true_eq_false, not_false_eq_true, Int.reduceEq, Int.reduceNe, Int.reduceLT, Int.reduceLE, Int.reduceAdd, Int.reduceSub, Int.reduceMul, Int.reduceNeg, Nat.reduceAdd, Nat.reduceLeDiff, Nat.reduceEqDiff, ne_eq, List.length_cons, List.length_nil, Nat.reduceSub, k5, h.look hT, hb, hm.tsY hT hb, b2, t0, t1, t2, t3]
    exact fin
  · rw [hb] at t1
    simp only [k_MO_qGoesOn_0, e_MO_qGoesOn_5, k_MO_qGoesOn_5, e_MO_qGoesOn_6, k_MO_qGoesOn_6, e_MO_qGoesOn_7, k_MO_qGoesOn_7, e_MO_qGoesOn_8, k_MO_qGoesOn_8, rr, sh, Nat.reduceLT, Nat.reduceMul, Int.reduceToNat, Int.reduceGT, Int.reduceGE, Int.reduceNe, true_and, and_true, true_or, or_true, false_or, or_false, and_self, or_self, if_true, if_false, reduceIte, not_true_eq_false, not_false_eq_true, Int.reduceEq, Int.reduceNe, Int.reduceLT, Int.reduceLE, Int.reduceAdd, Int.reduceSub, Int.reduceMul, Int.reduceNeg, Nat.reduceAdd, Nat.reduceLeDiff, Nat.reduceEqDiff, ne_eq, List.length_cons, List.length_nil, Nat.reduceSub, k5, h.look hT, hb, hm.tsN hT (c := 42) (by rw [hb]; decide), hm.tsY hT hb, b2, t0, t1, t2, t3]
    exact fin
set_option maxRecDepth 20000 in
theorem g_plus (hT : TapeR V) (hPB : Ptr B) (hc : KCtx (d + 6) K L E) {s : Int} {r : List Int} (hsg : (bz V a = 43 ∧ s = 1) ∨ (bz V a = 45 ∧ s = 2)) (hr : ∀ x ∈ r, x = 3 ∨ x = 4 ∨ x = 1 ∨ x = 2) (ht : tpN' W (fun x => x = 3 ∨ x = 4 ∨ x = 1 ∨ x = 2)) (hn : PKq V B (d + 6) K (skE V (a + 1)) j (C ++ r) (W ++ [s]) o b) : GKq V B (d + 6) L a j C (W ++ r.reverse) o b := by
  intro H y h
  have hm := h.mv
  have k5 := h.k5
  have lt := bz_in' (V := V) (k := a) rfl (by omega)
  have hs1 := hm.sign (by omega)
  obtain ⟨t0, t1, t2, t3⟩ := tape_at hT hm lt (x := ((a + 1 : Nat) : Int))
  have sk := (skE_rng (V := V) (a := a + 1) lt).1
  have l0 := h.2.2.2.2.2.1
  rw [List.length_append, List.length_reverse] at l0
  have fin := c_dropP (d := d + 3) (s := s) (Q := L) hT hPB ht r C _ hr hs1 (fun H' h' => (g_push11 hT hPB hc h' (by rw [List.length_append]; omega) hn).2)
  have b2 : hs (hs H 71 2 a) 71 2 ((a + 1 : Nat) : Int) 71 2 = ((a + 1 : Nat) : Int) := hs_same
  rw [e_MO_qGoesOn_0]
  rcases hsg with ⟨hb, rfl⟩ | ⟨hb, rfl⟩
  · rw [hb] at t1
    simp only [k_MO_qGoesOn_0, e_MO_qGoesOn_5, k_MO_qGoesOn_5, e_MO_qGoesOn_12, k_MO_qGoesOn_12, e_MO_qGoesOn_13, k_MO_qGoesOn_13, e_MO_qGoesOn_14, k_MO_qGoesOn_14, e_MO_qGoesOn_15, k_MO_qGoesOn_15, rr, sh, Nat.reduceLT, Nat.reduceMul, Int.reduceToNat, Int.reduceGT, Int.reduceGE, Int.reduceNe, true_and, and_true, true_or, or_true, false_or, or_false, and_self, or_self, if_true, if_false, reduceIte, not_true_eq_false, not_false_eq_true, Int.reduceEq, Int.reduceNe, Int.reduceLT, Int.reduceLE, Int.reduceAdd, Int.reduceSub, Int.reduceMul, Int.reduceNeg, Nat.reduceAdd, Nat.reduceLeDiff, Nat.reduceEqDiff, ne_eq, List.length_cons, List.length_nil, Nat.reduceSub, k5, h.look hT, hb, hm.tsN hT (c := 42) (by rw [hb]; decide), hm.tsN hT (c := 47) (by rw [hb]; decide), hm.tsY hT hb, b2, t0, t1, t2, t3]
    exact fin
  · rw [hb] at t1
    simp only [k_MO_qGoesOn_0, e_MO_qGoesOn_5, k_MO_qGoesOn_5, e_MO_qGoesOn_12, k_MO_qGoesOn_12, e_MO_qGoesOn_13, k_MO_qGoesOn_13, e_MO_qGoesOn_14, k_MO_qGoesOn_14, e_MO_qGoesOn_15, k_MO_qGoesOn_15, rr, sh, Nat.reduceLT, Nat.reduceMul, Int.reduceToNat, Int.reduceGT, Int.reduceGE, Int.reduceNe, true_and, and_true, true_or, or_true, false_or, or_false, and_self, or_self, if_true, if_false, reduceIte, not_true_eq_false, not_false_eq_true, Int.reduceEq, Int.reduceNe, Int.reduceLT, Int.reduceLE, Int.reduceAdd, Int.reduceSub, Int.reduceMul, Int.reduceNeg, Nat.reduceAdd, Nat.reduceLeDiff, Nat.reduceEqDiff, ne_eq, List.length_cons, List.length_nil, Nat.reduceSub, k5, h.look hT, hb, hm.tsN hT (c := 42) (by rw [hb]; decide), hm.tsN hT (c := 47) (by rw [hb]; decide), hm.tsN hT (c := 43) (by rw [hb]; decide), hm.tsY hT hb, b2, t0, t1, t2, t3]
    exact fin
set_option maxRecDepth 20000 in
/-- the sum ends -/
theorem g_end (hT : TapeR V) (hPB : Ptr B) (hc : KCtx (d + 6) K L E) (hw : BrW W b (-1)) (n42 : ¬ bz V a = 42) (n47 : ¬ bz V a = 47) (n43 : ¬ bz V a = 43) (n45 : ¬ bz V a = 45) (hE : ∀ H, MQs V B H a j C W o b → E H) : GKq V B (d + 6) L a j C W o b := by
  intro H y h
  have hm := h.mv
  have k5 := h.k5
  have qb := fun {Q} => hw.q (d := d + 4) (Q := Q) hT hPB hm.1
  have fin := hc.2.2.2 _ (hE _ hm.1)
  rw [e_MO_qGoesOn_0]
  by_cases c : bz V a = 41
  · simp only [k_MO_qGoesOn_0, e_MO_qGoesOn_5, k_MO_qGoesOn_5, e_MO_qGoesOn_12, k_MO_qGoesOn_12, e_MO_qGoesOn_19, k_MO_qGoesOn_19, e_MO_qGoesOn_22, k_MO_qGoesOn_22, e_MO_qGoesOn_23, k_MO_qGoesOn_23, rr, sh, Nat.reduceLT, Nat.reduceMul, Int.reduceToNat, Int.reduceGT, Int.reduceGE, Int.reduceNe, true_and, and_true, true_or, or_true, false_or, or_false, and_self, or_self, if_true, if_false, reduceIte, not_true_eq_false, not_false_eq_true, Int.reduceEq, Int.reduceNe, Int.reduceLT, Int.reduceLE, Int.reduceAdd, Int.reduceSub, Int.reduceMul, Int.reduceNeg, Nat.reduceAdd, Nat.reduceLeDiff, Nat.reduceEqDiff, ne_eq, List.length_cons, List.length_nil, Nat.reduceSub, k5, h.look hT, c, qb, hm.tsN hT (c := 42) n42, hm.tsN hT (c := 47) n47, hm.tsN hT (c := 43) n43, hm.tsN hT (c := 45) n45]
    exact fin
  · simp only [k_MO_qGoesOn_0, e_MO_qGoesOn_5, k_MO_qGoesOn_5, e_MO_qGoesOn_12, k_MO_qGoesOn_12, e_MO_qGoesOn_19, k_MO_qGoesOn_19, e_MO_qGoesOn_22, k_MO_qGoesOn_22, e_MO_qGoesOn_23, k_MO_qGoesOn_23, rr, sh, Nat.reduceLT, Nat.reduceMul, Int.reduceToNat, Int.reduceGT, Int.reduceGE, Int.reduceNe, true_and, and_true, true_or, or_true, false_or, or_false, and_self, or_self, if_true, if_false, reduceIte, not_true_eq_false, not_false_eq_true, Int.reduceEq, Int.reduceNe, Int.reduceLT, Int.reduceLE, Int.reduceAdd, Int.reduceSub, Int.reduceMul, Int.reduceNeg, Nat.reduceAdd, Nat.reduceLeDiff, Nat.reduceEqDiff, ne_eq, List.length_cons, List.length_nil, Nat.reduceSub, k5, h.look hT, c, qb, hm.tsN hT (c := 42) n42, hm.tsN hT (c := 47) n47, hm.tsN hT (c := 43) n43, hm.tsN hT (c := 45) n45]
    exact fin
set_option maxRecDepth 20000 in
/-- no closing bracket where one is asked -/
theorem g_failR (hT : TapeR V) (hPB : Ptr B) (hc : KCtx (d + 6) K L E) {br : Int} (hbr : br = 20 ∨ br = 23 ∨ br = 24) (hw : BrW W b br) (n42 : ¬ bz V a = 42) (n47 : ¬ bz V a = 47) (n43 : ¬ bz V a = 43) (n45 : ¬ bz V a = 45) (n41 : ¬ bz V a = 41) (hE : ErQ B E 1 a) : GKq V B (d + 6) L a j C W o b := by
  intro H y h
  have hm := h.mv
  have k5 := h.k5
  have k5' := hm.1.k5
  have b2 : hs H 71 2 a 71 2 = a := hs_same
  have qb := fun {Q} => hw.q (d := d + 4) (Q := Q) hT hPB hm.1
  have fin := hc.2.2.2 _ (hE _ (h.fail (x := a) (kk := 1) (pl := a)) ((hs2 (by decide)).trans hs_same) hs_same (h.bcf hT))
  rw [e_MO_qGoesOn_0]
  rcases hbr with rfl | rfl | rfl
  all_goals
    simp only [k_MO_qGoesOn_0, e_MO_qGoesOn_5, k_MO_qGoesOn_5, e_MO_qGoesOn_12, k_MO_qGoesOn_12, e_MO_qGoesOn_19, k_MO_qGoesOn_19, e_MO_qGoesOn_22, k_MO_qGoesOn_22, e_MO_qGoesOn_23, k_MO_qGoesOn_23, rr, sh, Nat.reduceLT, Nat.reduceMul, Int.reduceToNat, Int.reduceGT, Int.reduceGE, Int.reduceNe, true_and, and_true, true_or, or_true, false_or, or_false, and_self, or_self, if_true, if_false, reduceIte, not_true_eq_false, not_false_eq_true, Int.reduceEq, Int.reduceNe, Int.reduceLT, Int.reduceLE, Int.reduceAdd, Int.reduceSub, Int.reduceMul, Int.reduceNeg, Nat.reduceAdd, Nat.reduceLeDiff, Nat.reduceEqDiff, ne_eq, List.length_cons, List.length_nil, Nat.reduceSub, k5, k5', b2, h.look hT, n41, qb, hm.tsN hT (c := 42) n42, hm.tsN hT (c := 47) n47, hm.tsN hT (c := 43) n43, hm.tsN hT (c := 45) n45, q_failM k5']
    exact fin
set_option maxRecDepth 20000 in
/-- no comma where one is asked -/
theorem g_failC (hT : TapeR V) (hPB : Ptr B) (hc : KCtx (d + 6) K L E) {br : Int} (hbr : br = 21 ∨ br = 22) (hw : BrW W b br) (n42 : ¬ bz V a = 42) (n47 : ¬ bz V a = 47) (n43 : ¬ bz V a = 43) (n45 : ¬ bz V a = 45) (n44 : ¬ bz V a = 44) (hE : ErQ B E 1 a) : GKq V B (d + 6) L a j C W o b := by
  intro H y h
  have hm := h.mv
  have k5 := h.k5
  have k5' := hm.1.k5
  have qb := fun {Q} => hw.q (d := d + 4) (Q := Q) hT hPB hm.1
  have e5 : hs (hs (hs H 71 2 a) 71 5 1) 71 6 a 71 5 = 1 := (hs2 (by decide)).trans hs_same
  have fin := hc.2.2.2 _ (hE _ (h.fail (x := a) (kk := 1) (pl := a)) e5 hs_same (h.bcf hT))
  have qs : ∀ {Q : AV → Hp → Prop}, CC (d + 5) MO_asksSign [va 71, vi 44] (hs H 71 2 a) Q = Q vu (hs (hs (hs H 71 2 a) 71 5 1) 71 6 a) := fun {Q} => by
    rw [q_asksSign (d := d + 3) hT hm.2.1.1 hm.2.1.2.1 hm.2.1.2.2.2.2.2 hm.2.1.2.2.2.1, hm.2.2, if_neg n44, hm.same]
  rw [e_MO_qGoesOn_0]
  by_cases c : bz V a = 41
  · rcases hbr with rfl | rfl
    all_goals
      simp only [k_MO_qGoesOn_0, e_MO_qGoesOn_5, k_MO_qGoesOn_5, e_MO_qGoesOn_12, k_MO_qGoesOn_12, e_MO_qGoesOn_19, k_MO_qGoesOn_19, e_MO_qGoesOn_20, k_MO_qGoesOn_20, rr, sh, Nat.reduceLT, Nat.reduceMul, Int.reduceToNat, Int.reduceGT, Int.reduceGE, Int.reduceNe, true_and, and_true, true_or, or_true, false_or, or_false, and_self, or_self, if_true, if_false, reduceIte, not_true_eq_false, not_false_eq_true, Int.reduceEq, Int.reduceNe, Int.reduceLT, Int.reduceLE, Int.reduceAdd, Int.reduceSub, Int.reduceMul, Int.reduceNeg, Nat.reduceAdd, Nat.reduceLeDiff, Nat.reduceEqDiff, ne_eq, List.length_cons, List.length_nil, Nat.reduceSub, k5, h.look hT, c, qb, hm.tsN hT (c := 42) n42, hm.tsN hT (c := 47) n47, hm.tsN hT (c := 43) n43, hm.tsN hT (c := 45) n45, qs, e5]
      exact fin
  · rcases hbr with rfl | rfl
    all_goals
      simp only [k_MO_qGoesOn_0, e_MO_qGoesOn_5, k_MO_qGoesOn_5, e_MO_qGoesOn_12, k_MO_qGoesOn_12, e_MO_qGoesOn_19, k_MO_qGoesOn_19, e_MO_qGoesOn_20, k_MO_qGoesOn_20, rr, sh, Nat.reduceLT, Nat.reduceMul, Int.reduceToNat, Int.reduceGT, Int.reduceGE, Int.reduceNe, true_and, and_true, true_or, or_true, false_or, or_false, and_self, or_self, if_true, if_false, reduceIte, not_true_eq_false, not_false_eq_true, Int.reduceEq, Int.reduceNe, Int.reduceLT, Int.reduceLE, Int.reduceAdd, Int.reduceSub, Int.reduceMul, Int.reduceNeg, Nat.reduceAdd, Nat.reduceLeDiff, Nat.reduceEqDiff, ne_eq, List.length_cons, List.length_nil, Nat.reduceSub, k5, h.look hT, c, qb, hm.tsN hT (c := 42) n42, hm.tsN hT (c := 47) n47, hm.tsN hT (c := 43) n43, hm.tsN hT (c := 45) n45, qs, e5]
      exact fin
end QZ4
