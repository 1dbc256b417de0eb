/-! QUESTIONS: the reference's min, max -/
section QZ6
variable {d : Nat} {V B : Hp} {K : Hp → Prop} {L : AV → Hp → Prop} {E : Hp → Prop} {a : Nat} {j : Int} {C W : List Int} {o b : Nat}
set_option maxRecDepth 20000 in
theorem k_min (hT : TapeR V) (hPB : Ptr B) (hWB : Wds B) (hc : KCtx (d + 6) K L E) (hw : wrI V a j QW = 15) (ho6 : o ≤ 6)
    (h0 : ¬ bz V (skE V (enE V a)) = 40 → ErQ B E 1 (skE V (enE V a)))
    (hN : bz V (skE V (enE V a)) = 40 → ¬ o < 6 → ErQ B E 4 (skE V (enE V a)))
    (hn : bz V (skE V (enE V a)) = 40 → o < 6 → PKq V B (d + 6) K (skE V (skE V (enE V a) + 1)) (enE V a) C (W ++ [21]) (o + 1) b) : PKq V B (d + 6) K a j C W o b := by
  intro H y2 y3 y4 y5 h
  have hm := h.mv
  have k5 := h.k5
  have n16 := tpN_le hT
  obtain ⟨lt, n40, -⟩ := wr_ltM hT h hw (by decide)
  have f := mq_f (hm.1.ptr hPB)
  have qw := fun {Q} => q_qWordOf (d := d + 2) (Q := Q) hT hPB hWB hm (l := 3) (u := 5)
  rw [qwN _ (by rw [hw]; decide)] at qw
  have h15 : ∀ {Q : AV → Hp → Prop}, CC (d + 5) MO_isHere [va 71, va 129] (hs H 71 2 a) Q = Q (vi 1) (hs H 71 2 a) := fun {Q} => by
    have t := hm.here (d := d + 4) (Q := Q) hT hWB (i := 15) (c := 129) (by decide) rfl
    rw [hw] at t
    exact t
  have h16 : ∀ {Q : AV → Hp → Prop}, CC (d + 5) MO_isHere [va 71, va 130] (hs H 71 2 a) Q = Q (vi 0) (hs H 71 2 a) := fun {Q} => by
    have t := hm.here (d := d + 4) (Q := Q) hT hWB (i := 16) (c := 130) (by decide) rfl
    rw [hw] at t
    exact t
  have ts := fun {Q} => MQs.takesY (d := d + 3) (Q := Q) hT hWB hm.1 (i := 15) (c := 129) (by decide) rfl hw
  have ta : True := trivial
  have hp := hm.1.pass
  have fp := mq_f (hp.ptr hPB)
  have hq := hp.mv
  have k5q := hq.1.k5
  have ql := fun {Q} => hp.look (d := d + 5) (Q := Q) hT
  have eN : ¬ (skE V (enE V a) : Int) = -1 := fun z => absurd (z ▸ Int.natCast_nonneg (skE V (enE V a))) (by decide)
  have b2 : hs (hs (hs (hs (hs H 71 2 a) 71 2 a) 71 2 (enE V a)) 71 4 (enE V a)) 71 2 (skE V (enE V a)) 71 2 = skE V (enE V a) := hs_same
  have lt2 : a < skE V (enE V a) := Nat.lt_of_lt_of_le lt (skE_rng (enE_rng h.sk.2).2.1).1
  generalize hs (hs (hs (hs H 71 2 a) 71 2 a) 71 2 (enE V a)) 71 4 (enE V a) = X at *
  rw [e_MO_qPartTold_1]
  by_cases b40 : bz V (skE V (enE V a)) = 40
  · have ltq := bz_in' b40 (by decide)
    by_cases ho : o < 6
    · have qo := fun {Q} => c_qOpens (d := d + 4) (Q := Q) hT hPB hq.1 ho (w := 21) (p := (skE V (enE V a) : Int))
      have M2 : MRd V (hs (hs (hs (hs X 71 2 (skE V (enE V a))) 71 91 ((o + 1 : Nat) : Int)) 137 (W.length : Nat) 21) 71 90 ((W.length + 1 : Nat) : Int)) (skE V (enE V a)) (enE V a) := hq.2.1.c (fun b hb => by rw [hs2 (by omega), hs_ne' (by decide), hs2 (by omega)]) (by rw [hs_ne (by decide), hs_ne (by decide), hs_ne (by decide)])
      have qs : ∀ {Q : AV → Hp → Prop}, CC (d + 5) MO_asksSign [va 71, vi 40] (hs (hs (hs (hs X 71 2 (skE V (enE V a))) 71 91 ((o + 1 : Nat) : Int)) 137 (W.length : Nat) 21) 71 90 ((W.length + 1 : Nat) : Int)) Q = Q vu _ := fun {Q} => by
        rw [q_asksSign (d := d + 3) hT M2.1 M2.2.1 M2.2.2.2.2.2 M2.2.2.2.1, hq.2.2, if_pos b40]
      have FL : Fx sLM (hs (hs (hs (hs X 71 2 (skE V (enE V a))) 71 91 ((o + 1 : Nat) : Int)) 137 (W.length : Nat) 21) 71 90 ((W.length + 1 : Nat) : Int)) (hs (hs (hs (hs (hs (hs X 71 2 (skE V (enE V a))) 71 91 ((o + 1 : Nat) : Int)) 137 (W.length : Nat) 21) 71 90 ((W.length + 1 : Nat) : Int)) 71 2 (skE V (enE V a))) 71 2 ((skE V (enE V a) + 1 : Nat) : Int)) := (Fx.rf.hs (c := 71) (j := 2) rfl).hs (c := 71) (j := 2) rfl
      have hz := hq.1.opn FL (p := skE V (enE V a) + 1) (sLM_ms M2 FL hs_same ((hs2 (by decide)).trans ((hs2 (by decide)).trans M2.2.2.1)) ((hs2 (by decide)).trans ((hs2 (by decide)).trans M2.2.2.2.1)) ((hs2 (by decide)).trans ((hs2 (by decide)).trans M2.2.2.2.2.1)) ltq) rfl (Nat.lt_of_lt_of_le (Nat.lt_succ_self _) (skE_rng ltq).1)
      have := hn b40 ho _ (vi (bz V a)) (vi (-1)) (vi 1) (vi (skE V (enE V a))) hz
      simp only [k_MO_qPartTold_1, e_MO_qPartTold_2, k_MO_qPartTold_2, e_MO_qPartTold_3, k_MO_qPartTold_3, e_MO_qPartTold_4, k_MO_qPartTold_4, e_MO_qPartTold_5, k_MO_qPartTold_5, e_MO_qPartTold_6, k_MO_qPartTold_6, e_MO_qPartTold_7, k_MO_qPartTold_7, e_MO_qPartTold_8, k_MO_qPartTold_8, e_MO_qPartTold_9, k_MO_qPartTold_9, e_MO_qPartTold_12, k_MO_qPartTold_12, rr, sh, Nat.reduceLT, Nat.reduceMul, Int.reduceToNat, Int.reduceGT, Int.reduceGE, Int.reduceNe, true_and, and_true, true_or, or_true, false_or, or_false, and_self, or_self, if_true, if_false, reduceIte, not_true_eq_false, not_false_eq_true, Int.reduceEq, Int.reduceNe, Int.reduceLT, Int.reduceLE, Int.reduceAdd, Int.reduceSub, Int.reduceMul, Int.reduceNeg, Nat.reduceAdd, Nat.reduceLeDiff, Nat.reduceEqDiff, ne_eq, List.length_cons, List.length_nil, Nat.reduceSub, f, fp, k5, h.look hT, qw, n40, h15, h16, ts, ta, ql, b40, b2, eN, qo, qs]
      exact this
    · have o66 : o = 6 := by omega
      have o6 : hs X 71 2 (skE V (enE V a)) 71 91 = 6 := by rw [hq.1.2.2.2.1, o66]; rfl
      have qo := fun {Q} => c_qOpensN (d := d + 4) (Q := Q) k5q o6 (w := 21) (p := (skE V (enE V a) : Int))
      have e5 : hs (hs (hs X 71 2 (skE V (enE V a))) 71 5 4) 71 6 (skE V (enE V a)) 71 5 = 4 := (hs2 (by decide)).trans hs_same
      have nb : hs (hs (hs X 71 2 (skE V (enE V a))) 71 5 4) 71 6 (skE V (enE V a)) 71 5 ≠ 0 := by rw [e5]; decide
      have := k_bad (d := d) (x := 1) (y2 := vi (bz V a)) (y3 := vi (-1)) (y4 := vi 1) (y5 := vi (skE V (enE V a))) nb (hc.2.1 _ nb (hN b40 ho _ hp.fail e5 hs_same (hp.bcf hT)))
      simp only [k_MO_qPartTold_1, e_MO_qPartTold_2, k_MO_qPartTold_2, e_MO_qPartTold_3, k_MO_qPartTold_3, e_MO_qPartTold_4, k_MO_qPartTold_4, e_MO_qPartTold_5, k_MO_qPartTold_5, e_MO_qPartTold_6, k_MO_qPartTold_6, e_MO_qPartTold_7, k_MO_qPartTold_7, e_MO_qPartTold_8, k_MO_qPartTold_8, e_MO_qPartTold_9, k_MO_qPartTold_9, e_MO_qPartTold_12, k_MO_qPartTold_12, rr, sh, Nat.reduceLT, Nat.reduceMul, Int.reduceToNat, Int.reduceGT, Int.reduceGE, Int.reduceNe, true_and, and_true, true_or, or_true, false_or, or_false, and_self, or_self, if_true, if_false, reduceIte, not_true_eq_false, not_false_eq_true, Int.reduceEq, Int.reduceNe, Int.reduceLT, Int.reduceLE, Int.reduceAdd, Int.reduceSub, Int.reduceMul, Int.reduceNeg, Nat.reduceAdd, Nat.reduceLeDiff, Nat.reduceEqDiff, ne_eq, List.length_cons, List.length_nil, Nat.reduceSub, f, fp, k5, h.look hT, qw, n40, h15, h16, ts, ta, ql, b40, b2, eN, qo, q_asksSign' nb]
      exact this
  · have qs : ∀ {Q : AV → Hp → Prop}, CC (d + 5) MO_asksSign [va 71, vi 40] (hs X 71 2 (skE V (enE V a))) Q = Q vu (hs (hs (hs X 71 2 (skE V (enE V a))) 71 5 1) 71 6 (skE V (enE V a))) := fun {Q} => by
      rw [q_asksSign (d := d + 3) hT hq.2.1.1 hq.2.1.2.1 hq.2.1.2.2.2.2.2 hq.2.1.2.2.2.1, hq.2.2, if_neg b40, hq.same]
    have e5 : hs (hs (hs X 71 2 (skE V (enE V a))) 71 5 1) 71 6 (skE V (enE V a)) 71 5 = 1 := (hs2 (by decide)).trans hs_same
    have nb : hs (hs (hs X 71 2 (skE V (enE V a))) 71 5 1) 71 6 (skE V (enE V a)) 71 5 ≠ 0 := by rw [e5]; decide
    have := k_bad (d := d) (x := 1) (y2 := vi (bz V a)) (y3 := vi (-1)) (y4 := vi 1) (y5 := vi (-1)) nb (hc.2.1 _ nb (h0 b40 _ hp.fail e5 hs_same (hp.bcf hT)))
    simp only [k_MO_qPartTold_1, e_MO_qPartTold_2, k_MO_qPartTold_2, e_MO_qPartTold_3, k_MO_qPartTold_3, e_MO_qPartTold_4, k_MO_qPartTold_4, e_MO_qPartTold_5, k_MO_qPartTold_5, e_MO_qPartTold_6, k_MO_qPartTold_6, e_MO_qPartTold_7, k_MO_qPartTold_7, e_MO_qPartTold_8, k_MO_qPartTold_8, e_MO_qPartTold_9, k_MO_qPartTold_9, e_MO_qPartTold_12, k_MO_qPartTold_12, rr, sh, Nat.reduceLT, Nat.reduceMul, Int.reduceToNat, Int.reduceGT, Int.reduceGE, Int.reduceNe, true_and, and_true, true_or, or_true, false_or, or_false, and_self, or_self, if_true, if_false, reduceIte, not_true_eq_false, not_false_eq_true, Int.reduceEq, Int.reduceNe, Int.reduceLT, Int.reduceLE, Int.reduceAdd, Int.reduceSub, Int.reduceMul, Int.reduceNeg, Nat.reduceAdd, Nat.reduceLeDiff, Nat.reduceEqDiff, ne_eq, List.length_cons, List.length_nil, Nat.reduceSub, f, fp, k5, h.look hT, qw, n40, h15, h16, ts, ta, ql, b40, qs]
    exact this
set_option maxRecDepth 20000 in
theorem k_max (hT : TapeR V) (hPB : Ptr B) (hWB : Wds B) (hc : KCtx (d + 6) K L E) (hw : wrI V a j QW = 16) (ho6 : o ≤ 6)
    (h0 : ¬ bz V (skE V (enE V a)) = 40 → ErQ B E 1 (skE V (enE V a)))
    (hN : bz V (skE V (enE V a)) = 40 → ¬ o < 6 → ErQ B E 4 (skE V (enE V a)))
    (hn : bz V (skE V (enE V a)) = 40 → o < 6 → PKq V B (d + 6) K (skE V (skE V (enE V a) + 1)) (enE V a) C (W ++ [22]) (o + 1) b) : PKq V B (d + 6) K a j C W o b := by
  intro H y2 y3 y4 y5 h
  have hm := h.mv
  have k5 := h.k5
  have n16 := tpN_le hT
  obtain ⟨lt, n40, -⟩ := wr_ltM hT h hw (by decide)
  have f := mq_f (hm.1.ptr hPB)
  have qw := fun {Q} => q_qWordOf (d := d + 2) (Q := Q) hT hPB hWB hm (l := 3) (u := 5)
  rw [qwN _ (by rw [hw]; decide)] at qw
  have h15 : ∀ {Q : AV → Hp → Prop}, CC (d + 5) MO_isHere [va 71, va 129] (hs H 71 2 a) Q = Q (vi 0) (hs H 71 2 a) := fun {Q} => by
    have t := hm.here (d := d + 4) (Q := Q) hT hWB (i := 15) (c := 129) (by decide) rfl
    rw [hw] at t
    exact t
  have h16 : ∀ {Q : AV → Hp → Prop}, CC (d + 5) MO_isHere [va 71, va 130] (hs H 71 2 a) Q = Q (vi 1) (hs H 71 2 a) := fun {Q} => by
    have t := hm.here (d := d + 4) (Q := Q) hT hWB (i := 16) (c := 130) (by decide) rfl
    rw [hw] at t
    exact t
  have ts := fun {Q} => MQs.takesN (d := d + 3) (Q := Q) hT hWB hm.1 (i := 15) (c := 129) (by decide) rfl (by rw [hw]; decide)
  rw [hm.same] at ts
  have ta := fun {Q} => MQs.asksY (d := d + 2) (Q := Q) hT hWB hm.1 (i := 16) (c := 130) (by decide) rfl hw
  have hp := hm.1.pass
  have fp := mq_f (hp.ptr hPB)
  have hq := hp.mv
  have k5q := hq.1.k5
  have ql := fun {Q} => hp.look (d := d + 5) (Q := Q) hT
  have eN : ¬ (skE V (enE V a) : Int) = -1 := fun z => absurd (z ▸ Int.natCast_nonneg (skE V (enE V a))) (by decide)
  have b2 : hs (hs (hs (hs (hs H 71 2 a) 71 2 a) 71 2 (enE V a)) 71 4 (enE V a)) 71 2 (skE V (enE V a)) 71 2 = skE V (enE V a) := hs_same
  have lt2 : a < skE V (enE V a) := Nat.lt_of_lt_of_le lt (skE_rng (enE_rng h.sk.2).2.1).1
  generalize hs (hs (hs (hs H 71 2 a) 71 2 a) 71 2 (enE V a)) 71 4 (enE V a) = X at *
  rw [e_MO_qPartTold_1]
  by_cases b40 : bz V (skE V (enE V a)) = 40
  · have ltq := bz_in' b40 (by decide)
    by_cases ho : o < 6
    · have qo := fun {Q} => c_qOpens (d := d + 4) (Q := Q) hT hPB hq.1 ho (w := 22) (p := (skE V (enE V a) : Int))
      have M2 : MRd V (hs (hs (hs (hs X 71 2 (skE V (enE V a))) 71 91 ((o + 1 : Nat) : Int)) 137 (W.length : Nat) 22) 71 90 ((W.length + 1 : Nat) : Int)) (skE V (enE V a)) (enE V a) := hq.2.1.c (fun b hb => by rw [hs2 (by omega), hs_ne' (by decide), hs2 (by omega)]) (by rw [hs_ne (by decide), hs_ne (by decide), hs_ne (by decide)])
      have qs : ∀ {Q : AV → Hp → Prop}, CC (d + 5) MO_asksSign [va 71, vi 40] (hs (hs (hs (hs X 71 2 (skE V (enE V a))) 71 91 ((o + 1 : Nat) : Int)) 137 (W.length : Nat) 22) 71 90 ((W.length + 1 : Nat) : Int)) Q = Q vu _ := fun {Q} => by
        rw [q_asksSign (d := d + 3) hT M2.1 M2.2.1 M2.2.2.2.2.2 M2.2.2.2.1, hq.2.2, if_pos b40]
      have FL : Fx sLM (hs (hs (hs (hs X 71 2 (skE V (enE V a))) 71 91 ((o + 1 : Nat) : Int)) 137 (W.length : Nat) 22) 71 90 ((W.length + 1 : Nat) : Int)) (hs (hs (hs (hs (hs (hs X 71 2 (skE V (enE V a))) 71 91 ((o + 1 : Nat) : Int)) 137 (W.length : Nat) 22) 71 90 ((W.length + 1 : Nat) : Int)) 71 2 (skE V (enE V a))) 71 2 ((skE V (enE V a) + 1 : Nat) : Int)) := (Fx.rf.hs (c := 71) (j := 2) rfl).hs (c := 71) (j := 2) rfl
      have hz := hq.1.opn FL (p := skE V (enE V a) + 1) (sLM_ms M2 FL hs_same ((hs2 (by decide)).trans ((hs2 (by decide)).trans M2.2.2.1)) ((hs2 (by decide)).trans ((hs2 (by decide)).trans M2.2.2.2.1)) ((hs2 (by decide)).trans ((hs2 (by decide)).trans M2.2.2.2.2.1)) ltq) rfl (Nat.lt_of_lt_of_le (Nat.lt_succ_self _) (skE_rng ltq).1)
      have := hn b40 ho _ (vi (bz V a)) (vi (-1)) (vi 0) (vi (skE V (enE V a))) hz
      simp only [k_MO_qPartTold_1, e_MO_qPartTold_2, k_MO_qPartTold_2, e_MO_qPartTold_3, k_MO_qPartTold_3, e_MO_qPartTold_4, k_MO_qPartTold_4, e_MO_qPartTold_5, k_MO_qPartTold_5, e_MO_qPartTold_6, k_MO_qPartTold_6, e_MO_qPartTold_7, k_MO_qPartTold_7, e_MO_qPartTold_8, k_MO_qPartTold_8, e_MO_qPartTold_9, k_MO_qPartTold_9, e_MO_qPartTold_12, k_MO_qPartTold_12, rr, sh, Nat.reduceLT, Nat.reduceMul, Int.reduceToNat, Int.reduceGT, Int.reduceGE, Int.reduceNe, true_and, and_true, true_or, or_true, false_or, or_false, and_self, or_self, if_true, if_false, reduceIte, not_true_eq_false, not_false_eq_true, Int.reduceEq, Int.reduceNe, Int.reduceLT, Int.reduceLE, Int.reduceAdd, Int.reduceSub, Int.reduceMul, Int.reduceNeg, Nat.reduceAdd, Nat.reduceLeDiff, Nat.reduceEqDiff, ne_eq, List.length_cons, List.length_nil, Nat.reduceSub, f, fp, k5, h.look hT, qw, n40, h15, h16, ts, ta, ql, b40, b2, eN, qo, qs]
      exact this
    · have o66 : o = 6 := by omega
      have o6 : hs X 71 2 (skE V (enE V a)) 71 91 = 6 := by rw [hq.1.2.2.2.1, o66]; rfl
      have qo := fun {Q} => c_qOpensN (d := d + 4) (Q := Q) k5q o6 (w := 22) (p := (skE V (enE V a) : Int))
      have e5 : hs (hs (hs X 71 2 (skE V (enE V a))) 71 5 4) 71 6 (skE V (enE V a)) 71 5 = 4 := (hs2 (by decide)).trans hs_same
      have nb : hs (hs (hs X 71 2 (skE V (enE V a))) 71 5 4) 71 6 (skE V (enE V a)) 71 5 ≠ 0 := by rw [e5]; decide
      have := k_bad (d := d) (x := 1) (y2 := vi (bz V a)) (y3 := vi (-1)) (y4 := vi 0) (y5 := vi (skE V (enE V a))) nb (hc.2.1 _ nb (hN b40 ho _ hp.fail e5 hs_same (hp.bcf hT)))
      simp only [k_MO_qPartTold_1, e_MO_qPartTold_2, k_MO_qPartTold_2, e_MO_qPartTold_3, k_MO_qPartTold_3, e_MO_qPartTold_4, k_MO_qPartTold_4, e_MO_qPartTold_5, k_MO_qPartTold_5, e_MO_qPartTold_6, k_MO_qPartTold_6, e_MO_qPartTold_7, k_MO_qPartTold_7, e_MO_qPartTold_8, k_MO_qPartTold_8, e_MO_qPartTold_9, k_MO_qPartTold_9, e_MO_qPartTold_12, k_MO_qPartTold_12, rr, sh, Nat.reduceLT, Nat.reduceMul, Int.reduceToNat, Int.reduceGT, Int.reduceGE, Int.reduceNe, true_and, and_true, true_or, or_true, false_or, or_false, and_self, or_self, if_true, if_false, reduceIte, not_true_eq_false, not_false_eq_true, Int.reduceEq, Int.reduceNe, Int.reduceLT, Int.reduceLE, Int.reduceAdd, Int.reduceSub, Int.reduceMul, Int.reduceNeg, Nat.reduceAdd, Nat.reduceLeDiff, Nat.reduceEqDiff, ne_eq, List.length_cons, List.length_nil, Nat.reduceSub, f, fp, k5, h.look hT, qw, n40, h15, h16, ts, ta, ql, b40, b2, eN, qo, q_asksSign' nb]
      exact this
  · have qs : ∀ {Q : AV → Hp → Prop}, CC (d + 5) MO_asksSign [va 71, vi 40] (hs X 71 2 (skE V (enE V a))) Q = Q vu (hs (hs (hs X 71 2 (skE V (enE V a))) 71 5 1) 71 6 (skE V (enE V a))) := fun {Q} => by
      rw [q_asksSign (d := d + 3) hT hq.2.1.1 hq.2.1.2.1 hq.2.1.2.2.2.2.2 hq.2.1.2.2.2.1, hq.2.2, if_neg b40, hq.same]
    have e5 : hs (hs (hs X 71 2 (skE V (enE V a))) 71 5 1) 71 6 (skE V (enE V a)) 71 5 = 1 := (hs2 (by decide)).trans hs_same
    have nb : hs (hs (hs X 71 2 (skE V (enE V a))) 71 5 1) 71 6 (skE V (enE V a)) 71 5 ≠ 0 := by rw [e5]; decide
    have := k_bad (d := d) (x := 1) (y2 := vi (bz V a)) (y3 := vi (-1)) (y4 := vi 0) (y5 := vi (-1)) nb (hc.2.1 _ nb (h0 b40 _ hp.fail e5 hs_same (hp.bcf hT)))
    simp only [k_MO_qPartTold_1, e_MO_qPartTold_2, k_MO_qPartTold_2, e_MO_qPartTold_3, k_MO_qPartTold_3, e_MO_qPartTold_4, k_MO_qPartTold_4, e_MO_qPartTold_5, k_MO_qPartTold_5, e_MO_qPartTold_6, k_MO_qPartTold_6, e_MO_qPartTold_7, k_MO_qPartTold_7, e_MO_qPartTold_8, k_MO_qPartTold_8, e_MO_qPartTold_9, k_MO_qPartTold_9, e_MO_qPartTold_12, k_MO_qPartTold_12, rr, sh, Nat.reduceLT, Nat.reduceMul, Int.reduceToNat, Int.reduceGT, Int.reduceGE, Int.reduceNe, true_and, and_true, true_or, or_true, false_or, or_false, and_self, or_self, if_true, if_false, reduceIte, not_true_eq_false, not_false_eq_true, Int.reduceEq, Int.reduceNe, Int.reduceLT, Int.reduceLE, Int.reduceAdd, Int.reduceSub, Int.reduceMul, Int.reduceNeg, Nat.reduceAdd, Nat.reduceLeDiff, Nat.reduceEqDiff, ne_eq, List.length_cons, List.length_nil, Nat.reduceSub, f, fp, k5, h.look hT, qw, n40, h15, h16, ts, ta, ql, b40, qs]
    exact this
end QZ6
