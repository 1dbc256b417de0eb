/-! QUESTIONS: the reference's tests, ahead of a fact -/
section QT4
variable {d : Nat} {V B : Hp} {Q : AV → Hp → Prop} {a : Nat} {j : Int} {C W : List Int} {o : Nat}
set_option maxRecDepth 20000 in
/-- [ -/
theorem t_sq (hT : TapeR V) (hPB : Ptr B) (hb : bz V a = 91) (ho : o < 6) (hn : TKq V B d Q (skE V (a + 1)) j C (W ++ [25]) (o + 1)) : TKq V B d Q a j C W o := by
  intro H y2 h
  have hm := h.mv
  have k5 := h.k5
  have b2 : hs H 71 2 a 71 2 = a := hs_same
  have n16 := tpN_le hT
  have aw := w32_s (n := a) (Nat.lt_of_le_of_lt (Nat.le_trans h.sk.2 n16) (by decide))
  have qo := fun {Q} => c_qOpens (d := d + 7) (Q := Q) hT hPB hm.1 ho (w := 25) (p := a)
  have hs1 := hm.sign (by rw [hb]; decide)
  have lt := bz_in' (V := V) (k := a) hb (by decide)
  have hp := (hs1.op (o' := o + 1)).wpush (by have := h.2.2.2.2.2.1; have := (skE_rng (V := V) (a := a + 1) lt).1; clear aw; omega) (v := 25)
  rw [sw_op] at hp
  have := hn _ (vi 91) hp
  rw [e_MO_qTest_1]
  simp only [k_MO_qTest_1, rr, sh, Nat.reduceLT, Nat.reduceMul, Int.reduceToNat, Int.reduceGT, Int.reduceGE, Int.reduceNe, true_and, and_true, true_or, or_true, false_or, or_false, and_self, or_self, if_true, if_false, reduceIte, not_true_eq_false, not_false_eq_true, Int.reduceEq, Int.reduceNe, Int.reduceLT, Int.reduceLE, Int.reduceAdd, Int.reduceSub, Int.reduceMul, Int.reduceNeg, Nat.reduceAdd, Nat.reduceLeDiff, Nat.reduceEqDiff, ne_eq, List.length_cons, List.length_nil, Nat.reduceSub, hs_app, false_and, and_false, k5, h.look hT, hb, b2, qo, aw]
  exact this
set_option maxRecDepth 20000 in
theorem t_sqN (hT : TapeR V) (hPB : Ptr B) (hb : bz V a = 91) (ho : o = 6) (hE : ErQ B (Q vu) 4 a) : TKq V B d Q a j C W o := by
  intro H y2 h
  have hm := h.mv
  have k5 := h.k5
  have k5' := hm.1.k5
  have b2 : hs H 71 2 a 71 2 = a := hs_same
  have n16 := tpN_le hT
  have aw := w32_s (n := a) (Nat.lt_of_le_of_lt (Nat.le_trans h.sk.2 n16) (by decide))
  have o6 : hs H 71 2 a 71 91 = 6 := by rw [hm.1.2.2.2.1, ho]; rfl
  have qo := fun {Q} => c_qOpensN (d := d + 7) (Q := Q) k5' o6 (w := 25) (p := a)
  have e5 : hs (hs (hs (hs H 71 2 a) 71 5 4) 71 6 a) 71 2 ((a + 1 : Nat) : Int) 71 5 = 4 := by simp only [hs_app, Int.reduceEq, Int.reduceAdd, and_false, false_and, and_true, true_and, if_false, if_true, reduceIte, eq_self, and_self]
  have e6 : hs (hs (hs (hs H 71 2 a) 71 5 4) 71 6 a) 71 2 ((a + 1 : Nat) : Int) 71 6 = a := by simp only [hs_app, Int.reduceEq, Int.reduceAdd, and_false, false_and, and_true, true_and, if_false, if_true, reduceIte, eq_self, and_self]
  have nb : ¬ hs (hs (hs (hs H 71 2 a) 71 5 4) 71 6 a) 71 2 ((a + 1 : Nat) : Int) 71 5 = 0 := by rw [e5]; decide
  have := t_bad1 (d := d) (x := 1) (y2 := vi 91) nb (hE _ (h.fail.hs (c := 71) (j := 2) rfl) e5 e6 (h.bcf hT).h2)
  rw [e_MO_qTest_1]
  simp only [k_MO_qTest_1, rr, sh, Nat.reduceLT, Nat.reduceMul, Int.reduceToNat, Int.reduceGT, Int.reduceGE, Int.reduceNe, true_and, and_true, true_or, or_true, false_or, or_false, and_self, or_self, if_true, if_false, reduceIte, not_true_eq_false, not_false_eq_true, Int.reduceEq, Int.reduceNe, Int.reduceLT, Int.reduceLE, Int.reduceAdd, Int.reduceSub, Int.reduceMul, Int.reduceNeg, Nat.reduceAdd, Nat.reduceLeDiff, Nat.reduceEqDiff, ne_eq, List.length_cons, List.length_nil, Nat.reduceSub, hs_app, false_and, and_false, k5, h.look hT, hb, b2, qo, aw]
  exact this
set_option maxRecDepth 20000 in
/-- not -/
theorem t_not (hT : TapeR V) (hPB : Ptr B) (hWB : Wds B) (hw : wrI V a j QW = 8) (ho : o < 6) (hn : TKq V B d Q (skE V (enE V a)) (enE V a) C (W ++ [12]) (o + 1)) : TKq V B d Q a j C W o := by
  intro H y2 h
  have hm := h.mv
  have k5 := h.k5
  have b2 : hs H 71 2 a 71 2 = a := hs_same
  have n91 := (wr_ns hT h hw (by decide)).2
  have lt := wr_gt hT h.sk.2 h.sk.1 hw (by decide)
  have r := enE_rng h.sk.2
  have f := mq_f (hm.1.ptr hPB)
  have ih : ∀ {Q : AV → Hp → Prop}, CC (d + 8) MO_isHere [va 71, va 125] (hs H 71 2 a) Q = Q (vi 1) (hs H 71 2 a) := fun {Q} => by
    have t := hm.here (d := d + 7) (Q := Q) hT hWB (i := 8) (c := 125) (by decide) rfl
    rw [hw] at t
    exact t
  have qo := fun {Q} => c_qOpens (d := d + 7) (Q := Q) hT hPB hm.1 ho (w := 12) (p := a)
  have M2 : MRd V (hs (hs (hs (hs H 71 2 a) 71 91 ((o + 1 : Nat) : Int)) 137 (W.length : Nat) 12) 71 90 ((W.length + 1 : Nat) : Int)) a j := hm.2.1.c (fun b hb => by rw [hs2 (by omega), hs_ne' (by decide), hs2 (by omega)]) (by rw [hs_ne (by decide), hs_ne (by decide), hs_ne (by decide)])
  have F2 : Fx sQM B (hs (hs (hs (hs H 71 2 a) 71 91 ((o + 1 : Nat) : Int)) 137 (W.length : Nat) 12) 71 90 ((W.length + 1 : Nat) : Int)) := ((hm.1.fx.hs (c := 71) (j := 91) rfl).hs (c := 137) rfl).hs (c := 71) (j := 90) rfl
  have hW2 : Wds (hs (hs (hs (hs H 71 2 a) 71 91 ((o + 1 : Nat) : Int)) 137 (W.length : Nat) 12) 71 90 ((W.length + 1 : Nat) : Int)) := wds_fx hWB F2 (by decide +kernel)
  have hq := chQ hW2 (i := 8) (by decide)
  have eh : hereB V a j (QW.getD 8 []) = true := by rw [here_q (by decide)]; exact decide_eq_true hw
  have qa : ∀ {Q : AV → Hp → Prop}, CC (d + 8) MO_asks [va 71, va (qcell 8)] (hs (hs (hs (hs H 71 2 a) 71 91 ((o + 1 : Nat) : Int)) 137 (W.length : Nat) 12) 71 90 ((W.length + 1 : Nat) : Int)) Q = Q vu _ := fun {Q} => by
    rw [q_asks (d := d + 5) hT M2.1 M2.2.1 M2.2.2.2.2.2 M2.2.2.1 M2.2.2.2.1 hq.2.2 hq.1 hq.2.1, eh, if_pos rfl, hm.2.2]
  have f2 := mq_f (ptr_fx hPB F2 (by decide +kernel) : Ptr (hs (hs (hs (hs H 71 2 a) 71 91 ((o + 1 : Nat) : Int)) 137 (W.length : Nat) 12) 71 90 ((W.length + 1 : Nat) : Int)))
  have FL : Fx sLM (hs (hs (hs (hs H 71 2 a) 71 91 ((o + 1 : Nat) : Int)) 137 (W.length : Nat) 12) 71 90 ((W.length + 1 : Nat) : Int)) (hs (hs (hs (hs (hs (hs (hs H 71 2 a) 71 91 ((o + 1 : Nat) : Int)) 137 (W.length : Nat) 12) 71 90 ((W.length + 1 : Nat) : Int)) 71 2 a) 71 2 (enE V a)) 71 4 (enE V a)) := ((Fx.rf.hs (c := 71) (j := 2) rfl).hs (c := 71) (j := 2) rfl).hs (c := 71) (j := 4) rfl
  have hp := hm.1.opn FL (p := enE V a) (sLM_ms M2 FL ((hs2 (by decide)).trans hs_same) hs_same ((hs2 (by decide)).trans ((hs2 (by decide)).trans ((hs2 (by decide)).trans M2.2.2.2.1))) ((hs2 (by decide)).trans ((hs2 (by decide)).trans ((hs2 (by decide)).trans M2.2.2.2.2.1))) r.2.1) rfl (Nat.lt_of_lt_of_le lt (skE_rng r.2.1).1)
  have := hn _ (vi (bz V a)) hp
  simp only [show qcell 8 = 125 from rfl] at qa
  rw [e_MO_qTest_1]
  simp only [k_MO_qTest_1, e_MO_qTest_2, k_MO_qTest_2, rr, sh, Nat.reduceLT, Nat.reduceMul, Int.reduceToNat, Int.reduceGT, Int.reduceGE, Int.reduceNe, true_and, and_true, true_or, or_true, false_or, or_false, and_self, or_self, if_true, if_false, reduceIte, not_true_eq_false, not_false_eq_true, Int.reduceEq, Int.reduceNe, Int.reduceLT, Int.reduceLE, Int.reduceAdd, Int.reduceSub, Int.reduceMul, Int.reduceNeg, Nat.reduceAdd, Nat.reduceLeDiff, Nat.reduceEqDiff, ne_eq, List.length_cons, List.length_nil, Nat.reduceSub, f, f2, k5, h.look hT, n91, ih, b2, qo, qa]
  exact this
set_option maxRecDepth 20000 in
theorem t_notN (hT : TapeR V) (hPB : Ptr B) (hWB : Wds B) (hw : wrI V a j QW = 8) (ho : o = 6) (hE : ErQ B (Q vu) 4 a) : TKq V B d Q a j C W o := by
  intro H y2 h
  have hm := h.mv
  have k5 := h.k5
  have k5' := hm.1.k5
  have b2 : hs H 71 2 a 71 2 = a := hs_same
  have n91 := (wr_ns hT h hw (by decide)).2
  have f := mq_f (hm.1.ptr hPB)
  have ih : ∀ {Q : AV → Hp → Prop}, CC (d + 8) MO_isHere [va 71, va 125] (hs H 71 2 a) Q = Q (vi 1) (hs H 71 2 a) := fun {Q} => by
    have t := hm.here (d := d + 7) (Q := Q) hT hWB (i := 8) (c := 125) (by decide) rfl
    rw [hw] at t
    exact t
  have o6 : hs H 71 2 a 71 91 = 6 := by rw [hm.1.2.2.2.1, ho]; rfl
  have qo := fun {Q} => c_qOpensN (d := d + 7) (Q := Q) k5' o6 (w := 12) (p := a)
  have F2 : Fx sQM B (hs (hs (hs H 71 2 a) 71 5 4) 71 6 a) := h.fail
  have f2 := mq_f (ptr_fx hPB F2 (by decide +kernel) : Ptr (hs (hs (hs H 71 2 a) 71 5 4) 71 6 a))
  have e5 : hs (hs (hs H 71 2 a) 71 5 4) 71 6 a 71 5 = 4 := by simp only [hs_app, Int.reduceEq, Int.reduceAdd, and_false, false_and, and_true, true_and, if_false, if_true, reduceIte, eq_self, and_self]
  have e6 : hs (hs (hs H 71 2 a) 71 5 4) 71 6 a 71 6 = a := by simp only [hs_app, Int.reduceEq, Int.reduceAdd, and_false, false_and, and_true, true_and, if_false, if_true, reduceIte, eq_self, and_self]
  have nb : hs (hs (hs H 71 2 a) 71 5 4) 71 6 a 71 5 ≠ 0 := by rw [e5]; decide
  have qa : ∀ {c : Int} {Q : AV → Hp → Prop}, CC (d + 8) MO_asks [va 71, va c] (hs (hs (hs H 71 2 a) 71 5 4) 71 6 a) Q = Q vu (hs (hs (hs H 71 2 a) 71 5 4) 71 6 a) := fun {c Q} => q_asks' nb
  have := t_bad1 (d := d) (x := 1) (y2 := vi (bz V a)) nb (hE _ F2 e5 e6 (h.bcf hT))
  rw [e_MO_qTest_1]
  simp only [k_MO_qTest_1, e_MO_qTest_2, k_MO_qTest_2, rr, sh, Nat.reduceLT, Nat.reduceMul, Int.reduceToNat, Int.reduceGT, Int.reduceGE, Int.reduceNe, true_and, and_true, true_or, or_true, false_or, or_false, and_self, or_self, if_true, if_false, reduceIte, not_true_eq_false, not_false_eq_true, Int.reduceEq, Int.reduceNe, Int.reduceLT, Int.reduceLE, Int.reduceAdd, Int.reduceSub, Int.reduceMul, Int.reduceNeg, Nat.reduceAdd, Nat.reduceLeDiff, Nat.reduceEqDiff, ne_eq, List.length_cons, List.length_nil, Nat.reduceSub, f, f2, k5, h.look hT, n91, ih, b2, qo, qa]
  exact this
set_option maxRecDepth 20000 in
/-- a fact -/
theorem t_fact (hT : TapeR V) (hPB : Ptr B) (hWB : Wds B) {out : QO} (hF : RFq V a j o out) (hne : ∀ kk pl, out = .error (kk, pl) → kk ≠ 0) (n91 : ¬ bz V a = 91) (n8 : ¬ wrI V a j QW = 8) {W0 r : List Int} {o' : Nat} (hW : W = W0 ++ r.reverse) (ho : o = o' + r.length) (ho6 : o ≤ 6) (hr : ∀ x ∈ r, x = 12) (ht : tpN' W0 isNt) (hok : okW W0)
    (he : ∀ kk pl, out = .error (kk, pl) → ∀ H', Fx sQM B H' → H' 71 5 = kk → H' 71 6 = pl → Q vu H') (hg : ∀ a' j' cs, out = .ok (a', j', cs) → GTq V B d Q a' j' (C ++ cs.map rco ++ r) W0 o') : TKq V B d Q a j C W o := by
  intro H y2 h
  have hm := h.mv
  have k5 := h.k5
  have f := mq_f (hm.1.ptr hPB)
  have ih : ∀ {Q : AV → Hp → Prop}, CC (d + 8) MO_isHere [va 71, va 125] (hs H 71 2 a) Q = Q (vi 0) (hs H 71 2 a) := fun {Q} => by
    have t := hm.here (d := d + 7) (Q := Q) hT hWB (i := 8) (c := 125) (by decide) rfl
    rw [decide_eq_false (show ¬ wrI V a j QW = ((8 : Nat) : Int) from n8)] at t
    exact t
  have ok2 : okW W := by rw [hW]; exact hok.app (fun x hx => by rw [hr x hx]; decide)
  rw [e_MO_qTest_1]
  simp only [k_MO_qTest_1, e_MO_qTest_2, k_MO_qTest_2, e_MO_qTest_3, k_MO_qTest_3, rr, sh, Nat.reduceLT, Nat.reduceMul, Int.reduceToNat, Int.reduceGT, Int.reduceGE, Int.reduceNe, true_and, and_true, true_or, or_true, false_or, or_false, and_self, or_self, if_true, if_false, reduceIte, not_true_eq_false, not_false_eq_true, Int.reduceEq, Int.reduceNe, Int.reduceLT, Int.reduceLE, Int.reduceAdd, Int.reduceSub, Int.reduceMul, Int.reduceNeg, Nat.reduceAdd, Nat.reduceLeDiff, Nat.reduceEqDiff, ne_eq, List.length_cons, List.length_nil, Nat.reduceSub, f, k5, h.look hT, n91, ih]
  refine hF B d _ C W 0 _ hPB hWB ok2 hm.1 (fun kk pl z H' hFx h5 h6 => ?_) (fun a' j' cs z H' h' => ?_)
  · have nb : ¬ H' 71 5 = 0 := by rw [h5]; exact hne kk pl z
    have := t_bad6 (d := d) (x := 0) (y2 := vi (bz V a)) nb (he kk pl z H' hFx h5 h6)
    simp only [e_MO_qTest_4, k_MO_qTest_4, e_MO_qTest_5, k_MO_qTest_5, rr, sh, Nat.reduceLT, Nat.reduceMul, Int.reduceToNat, Int.reduceGT, Int.reduceGE, Int.reduceNe, true_and, and_true, true_or, or_true, false_or, or_false, and_self, or_self, if_true, if_false, reduceIte, not_true_eq_false, not_false_eq_true, Int.reduceEq, Int.reduceNe, Int.reduceLT, Int.reduceLE, Int.reduceAdd, Int.reduceSub, Int.reduceMul, Int.reduceNeg, Nat.reduceAdd, Nat.reduceLeDiff, Nat.reduceEqDiff, ne_eq, List.length_cons, List.length_nil, Nat.reduceSub, c_nots' nb, nb]
    rw [e_MO_qTest_1]
    simp only [k_MO_qTest_1, rr, sh, Nat.reduceLT, Nat.reduceMul, Int.reduceToNat, Int.reduceGT, Int.reduceGE, Int.reduceNe, true_and, and_true, true_or, or_true, false_or, or_false, and_self, or_self, if_true, if_false, reduceIte, not_true_eq_false, not_false_eq_true, Int.reduceEq, Int.reduceNe, Int.reduceLT, Int.reduceLE, Int.reduceAdd, Int.reduceSub, Int.reduceMul, Int.reduceNeg, Nat.reduceAdd, Nat.reduceLeDiff, Nat.reduceEqDiff, ne_eq, List.length_cons, List.length_nil, Nat.reduceSub]
    exact this
  · subst hW ho
    have nd2 : CC (d + 8) MO_qDropsNots [va 71] H' (fun _ H2 => H2 71 5 = 0 ∧ CC (d + 8) MO_qGoesOnTest [va 71] H2 (lT d Q)) := by
      have nd3 := c_nots (d := d + 6) (Q := fun _ H2 => H2 71 5 = 0 ∧ CC (d + 8) MO_qGoesOnTest [va 71] H2 (lT d Q)) hT hPB ht r _ _ hr ho6 h' (fun H2 h2 => by
        refine ⟨h2.k5, ?_⟩
        have := hg _ _ _ z H2 h2
        simp only [en_MO_qGoesOnTest, e_MO_qGoesOnTest_0] at this ⊢
        exact this)
      simp only [en_MO_qDropsNots, e_MO_qDropsNots_0] at nd3 ⊢
      exact nd3
    refine CC_mn nd2 (fun r1 H2 h2 => ?_)
    obtain ⟨e5, hc⟩ := h2
    simp only [rr, sh, Nat.reduceLT, Nat.reduceMul, Int.reduceToNat, Int.reduceGT, Int.reduceGE, Int.reduceNe, true_and, and_true, true_or, or_true, false_or, or_false, and_self, or_self, if_true, if_false, reduceIte, not_true_eq_false, not_false_eq_true, Int.reduceEq, Int.reduceNe, Int.reduceLT, Int.reduceLE, Int.reduceAdd, Int.reduceSub, Int.reduceMul, Int.reduceNeg, Nat.reduceAdd, Nat.reduceLeDiff, Nat.reduceEqDiff, ne_eq, List.length_cons, List.length_nil, Nat.reduceSub, e5]
    refine CC_mn hc (fun r2 H3 h3 => ?_)
    unfold lT at h3
    have := h3 (vi (bz V a))
    exact this
end QT4
