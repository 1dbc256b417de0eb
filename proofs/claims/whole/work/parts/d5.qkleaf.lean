/-! QUESTIONS: the reference's parts: words and numbers that stand alone -/
section QZ2
variable {d : Nat} {V B : Hp} {K : Hp → Prop} {L : AV → Hp → Prop} {E : Hp → Prop} {a : Nat} {j : Int} {C W : List Int} {o b : Nat}
theorem k_end (hc : KCtx (d + 6) K L E) {H : Hp} (h : MQs V B H a j C W o b) (hG : GKq V B (d + 6) L a j C W o b) : K H := by
  refine hc.1 H h.k5 ?_
  have := hG H vu h
  simp only [en_MO_qGoesOn, rr, sh, Nat.reduceLT, Nat.reduceMul, Int.reduceToNat, Int.reduceGT, Int.reduceGE, Int.reduceNe, true_and, and_true, true_or, or_true, false_or, or_false, and_self, or_self, if_true, if_false, reduceIte, not_true_eq_false, not_false_eq_true, Int.reduceEq, Int.reduceNe, Int.reduceLT, Int.reduceLE, Int.reduceAdd, Int.reduceSub, Int.reduceMul, Int.reduceNeg, Nat.reduceAdd, Nat.reduceLeDiff, Nat.reduceEqDiff, ne_eq, List.length_cons, List.length_nil, Nat.reduceSub]
  exact this
theorem qwN (w : Int) (h : ¬ w = 13 ∧ ¬ w = 14) : (if 3 ≤ qWh w ∧ qWh w < 5 then qWh w else -1) = -1 := by
  unfold qWh
  by_cases c10 : w = 10
  · rw [if_pos c10]; rfl
  · rw [if_neg c10]
    by_cases c11 : w = 11
    · rw [if_pos c11]; rfl
    · rw [if_neg c11]
      by_cases c12 : w = 12
      · rw [if_pos c12]; rfl
      · rw [if_neg c12, if_neg h.1, if_neg h.2]; rfl
theorem qwP (w : Int) : (if 0 ≤ qWh w ∧ qWh w < 3 then qWh w else -1) = if w = 10 then 0 else if w = 11 then 1 else if w = 12 then 2 else -1 := by
  unfold qWh
  by_cases c10 : w = 10
  · rw [if_pos c10, if_pos c10]; rfl
  · rw [if_neg c10, if_neg c10]
    by_cases c11 : w = 11
    · rw [if_pos c11, if_pos c11]; rfl
    · rw [if_neg c11, if_neg c11]
      by_cases c12 : w = 12
      · rw [if_pos c12, if_pos c12]; rfl
      · rw [if_neg c12, if_neg c12]
        by_cases c13 : w = 13
        · rw [if_pos c13]; rfl
        · rw [if_neg c13]
          by_cases c14 : w = 14
          · rw [if_pos c14]; rfl
          · rw [if_neg c14]; rfl
set_option maxRecDepth 20000 in
/-- stroke, off, good -/
theorem k_leaf (hT : TapeR V) (hPB : Ptr B) (hWB : Wds B) (hc : KCtx (d + 6) K L E) {w : Nat} (hw : wrI V a j QW = w) (h3 : w = 10 ∨ w = 11 ∨ w = 12) {W0 : List Int} {r : List Int} {o' : Nat} (hW : W = W0 ++ r.reverse) (ho : o = o' + r.length) (hr : ∀ x ∈ r, 60 ≤ x) (ho6 : o ≤ 6) (hb : b ≤ W0.length) (ht : tpW W0 b (fun x => x < 60))
    (hG : GKq V B (d + 6) L (skE V (enE V a)) (enE V a) (C ++ [((w + 30 : Nat) : Int)] ++ r) W0 o' b) : PKq V B (d + 6) K a j C W o b := by
  intro H y2 y3 y4 y5 h
  have hm := h.mv
  have k5 := h.k5
  obtain ⟨lt, n40, -⟩ := wr_ltM hT h hw (by omega)
  have rg := enE_rng h.sk.2
  have f := mq_f (hm.1.ptr hPB)
  obtain ⟨m15, m16⟩ := mm_no (d := d + 4) hT hWB hm (by rw [hw]; omega) (by rw [hw]; omega)
  have k5' := hm.1.k5
  have qw := fun {Q} => q_qWordOf (d := d + 2) (Q := Q) hT hPB hWB hm (l := 3) (u := 5)
  have qx := fun {Q} => q_qWordOf (d := d + 2) (Q := Q) hT hPB hWB hm (l := 0) (u := 3)
  rw [qwN _ (by rw [hw]; omega)] at qw
  rw [qwP, hw] at qx
  have wi : w < 17 := by omega
  have qa := fun {Q} => MQs.asksY (d := d + 1) (Q := Q) hT hWB hm.1 (i := w) wi rfl hw
  have hp := hm.1.pass
  have k5p := hp.k5
  have hl : C.length + W.length + 1 ≤ skE V (enE V a) := by
    have := h.2.2.2.2.2.1
    have := (skE_rng rg.2.1).1
    omega
  have hcd := hp.code hl (v := ((w + 30 : Nat) : Int))
  have qc := fun {Q} => q_qCode (d := d + 5) (Q := Q) hT hPB hp (v := ((w + 30 : Nat) : Int))
  have fin := c_ends (d := d + 3) (Q := fun _ => K) hT hPB hb ht r _ _ hr (by omega) (by rw [hW, ho] at hcd; exact hcd) (fun H' h' => k_end hc h' hG)
  rw [e_MO_qPartTold_1]
  rcases h3 with rfl | rfl | rfl
  · simp only [show qcell 10 = 131 from rfl] at qa
    simp only [show (if ((10 : Nat) : Int) = 10 then (0 : Int) else if ((10 : Nat) : Int) = 11 then 1 else if ((10 : Nat) : Int) = 12 then 2 else -1) = 0 from rfl] at qx
    simp only [show ((10 + 30 : Nat) : Int) = 40 from rfl] at *
    simp only [k_MO_qPartTold_1, e_MO_qPartTold_2, k_MO_qPartTold_2, e_MO_qPartTold_10, k_MO_qPartTold_10, e_MO_qPartTold_11, k_MO_qPartTold_11, e_MO_qPartTold_12, k_MO_qPartTold_12, rr, sh, Nat.reduceLT, Nat.reduceMul, Int.reduceToNat, Int.reduceGT, Int.reduceGE, Int.reduceNe, true_and, and_true, true_or, or_true, false_or, or_false, and_self, or_self, if_true, if_false, reduceIte, not_true_eq_false, not_false_eq_true, Int.reduceEq, Int.reduceNe, Int.reduceLT, Int.reduceLE, Int.reduceAdd, Int.reduceSub, Int.reduceMul, Int.reduceNeg, Nat.reduceAdd, Nat.reduceLeDiff, Nat.reduceEqDiff, ne_eq, List.length_cons, List.length_nil, Nat.reduceSub, f, k5, h.look hT, qw, n40, m15, m16]
    rw [e_MO_qPartTold_1]
    simp only [k_MO_qPartTold_1, e_MO_qPartTold_13, k_MO_qPartTold_13, e_MO_qPartTold_14, k_MO_qPartTold_14, e_MO_qPartTold_15, k_MO_qPartTold_15, e_MO_qPartTold_16, k_MO_qPartTold_16, e_MO_qPartTold_17, k_MO_qPartTold_17, en_MO_qAsksWord, e_MO_qAsksWord_0, k_MO_qAsksWord_0, e_MO_qAsksWord_1, k_MO_qAsksWord_1, e_MO_qAsksWord_2, k_MO_qAsksWord_2, e_MO_qAsksWord_3, k_MO_qAsksWord_3, e_MO_qAsksWord_4, k_MO_qAsksWord_4, e_MO_qAsksWord_5, k_MO_qAsksWord_5, e_MO_qAsksWord_6, k_MO_qAsksWord_6, rr, sh, Nat.reduceLT, Nat.reduceMul, Int.reduceToNat, Int.reduceGT, Int.reduceGE, Int.reduceNe, true_and, and_true, true_or, or_true, false_or, or_false, and_self, or_self, if_true, if_false, reduceIte, not_true_eq_false, not_false_eq_true, Int.reduceEq, Int.reduceNe, Int.reduceLT, Int.reduceLE, Int.reduceAdd, Int.reduceSub, Int.reduceMul, Int.reduceNeg, Nat.reduceAdd, Nat.reduceLeDiff, Nat.reduceEqDiff, ne_eq, List.length_cons, List.length_nil, Nat.reduceSub, f, k5', qx, qa, show w32 40 = 40 from rfl, qc, en_MO_qEndsPart]
    exact fin
  · simp only [show qcell 11 = 132 from rfl] at qa
    simp only [show (if ((11 : Nat) : Int) = 10 then (0 : Int) else if ((11 : Nat) : Int) = 11 then 1 else if ((11 : Nat) : Int) = 12 then 2 else -1) = 1 from rfl] at qx
    simp only [show ((11 + 30 : Nat) : Int) = 41 from rfl] at *
    simp only [k_MO_qPartTold_1, e_MO_qPartTold_2, k_MO_qPartTold_2, e_MO_qPartTold_10, k_MO_qPartTold_10, e_MO_qPartTold_11, k_MO_qPartTold_11, e_MO_qPartTold_12, k_MO_qPartTold_12, rr, sh, Nat.reduceLT, Nat.reduceMul, Int.reduceToNat, Int.reduceGT, Int.reduceGE, Int.reduceNe, true_and, and_true, true_or, or_true, false_or, or_false, and_self, or_self, if_true, if_false, reduceIte, not_true_eq_false, not_false_eq_true, Int.reduceEq, Int.reduceNe, Int.reduceLT, Int.reduceLE, Int.reduceAdd, Int.reduceSub, Int.reduceMul, Int.reduceNeg, Nat.reduceAdd, Nat.reduceLeDiff, Nat.reduceEqDiff, ne_eq, List.length_cons, List.length_nil, Nat.reduceSub, f, k5, h.look hT, qw, n40, m15, m16]
    rw [e_MO_qPartTold_1]
    simp only [k_MO_qPartTold_1, e_MO_qPartTold_13, k_MO_qPartTold_13, e_MO_qPartTold_14, k_MO_qPartTold_14, e_MO_qPartTold_15, k_MO_qPartTold_15, e_MO_qPartTold_16, k_MO_qPartTold_16, e_MO_qPartTold_17, k_MO_qPartTold_17, en_MO_qAsksWord, e_MO_qAsksWord_0, k_MO_qAsksWord_0, e_MO_qAsksWord_1, k_MO_qAsksWord_1, e_MO_qAsksWord_2, k_MO_qAsksWord_2, e_MO_qAsksWord_3, k_MO_qAsksWord_3, e_MO_qAsksWord_4, k_MO_qAsksWord_4, e_MO_qAsksWord_5, k_MO_qAsksWord_5, e_MO_qAsksWord_6, k_MO_qAsksWord_6, rr, sh, Nat.reduceLT, Nat.reduceMul, Int.reduceToNat, Int.reduceGT, Int.reduceGE, Int.reduceNe, true_and, and_true, true_or, or_true, false_or, or_false, and_self, or_self, if_true, if_false, reduceIte, not_true_eq_false, not_false_eq_true, Int.reduceEq, Int.reduceNe, Int.reduceLT, Int.reduceLE, Int.reduceAdd, Int.reduceSub, Int.reduceMul, Int.reduceNeg, Nat.reduceAdd, Nat.reduceLeDiff, Nat.reduceEqDiff, ne_eq, List.length_cons, List.length_nil, Nat.reduceSub, f, k5', qx, qa, show w32 41 = 41 from rfl, qc, en_MO_qEndsPart]
    exact fin
  · simp only [show qcell 12 = 133 from rfl] at qa
    simp only [show (if ((12 : Nat) : Int) = 10 then (0 : Int) else if ((12 : Nat) : Int) = 11 then 1 else if ((12 : Nat) : Int) = 12 then 2 else -1) = 2 from rfl] at qx
    simp only [show ((12 + 30 : Nat) : Int) = 42 from rfl] at *
    simp only [k_MO_qPartTold_1, e_MO_qPartTold_2, k_MO_qPartTold_2, e_MO_qPartTold_10, k_MO_qPartTold_10, e_MO_qPartTold_11, k_MO_qPartTold_11, e_MO_qPartTold_12, k_MO_qPartTold_12, rr, sh, Nat.reduceLT, Nat.reduceMul, Int.reduceToNat, Int.reduceGT, Int.reduceGE, Int.reduceNe, true_and, and_true, true_or, or_true, false_or, or_false, and_self, or_self, if_true, if_false, reduceIte, not_true_eq_false, not_false_eq_true, Int.reduceEq, Int.reduceNe, Int.reduceLT, Int.reduceLE, Int.reduceAdd, Int.reduceSub, Int.reduceMul, Int.reduceNeg, Nat.reduceAdd, Nat.reduceLeDiff, Nat.reduceEqDiff, ne_eq, List.length_cons, List.length_nil, Nat.reduceSub, f, k5, h.look hT, qw, n40, m15, m16]
    rw [e_MO_qPartTold_1]
    simp only [k_MO_qPartTold_1, e_MO_qPartTold_13, k_MO_qPartTold_13, e_MO_qPartTold_14, k_MO_qPartTold_14, e_MO_qPartTold_15, k_MO_qPartTold_15, e_MO_qPartTold_16, k_MO_qPartTold_16, e_MO_qPartTold_17, k_MO_qPartTold_17, en_MO_qAsksWord, e_MO_qAsksWord_0, k_MO_qAsksWord_0, e_MO_qAsksWord_1, k_MO_qAsksWord_1, e_MO_qAsksWord_2, k_MO_qAsksWord_2, e_MO_qAsksWord_3, k_MO_qAsksWord_3, e_MO_qAsksWord_4, k_MO_qAsksWord_4, e_MO_qAsksWord_5, k_MO_qAsksWord_5, e_MO_qAsksWord_6, k_MO_qAsksWord_6, rr, sh, Nat.reduceLT, Nat.reduceMul, Int.reduceToNat, Int.reduceGT, Int.reduceGE, Int.reduceNe, true_and, and_true, true_or, or_true, false_or, or_false, and_self, or_self, if_true, if_false, reduceIte, not_true_eq_false, not_false_eq_true, Int.reduceEq, Int.reduceNe, Int.reduceLT, Int.reduceLE, Int.reduceAdd, Int.reduceSub, Int.reduceMul, Int.reduceNeg, Nat.reduceAdd, Nat.reduceLeDiff, Nat.reduceEqDiff, ne_eq, List.length_cons, List.length_nil, Nat.reduceSub, f, k5', qx, qa, show w32 42 = 42 from rfl, qc, en_MO_qEndsPart]
    exact fin
set_option maxRecDepth 20000 in
/-- a number, or none -/
theorem k_num (hT : TapeR V) (hPB : Ptr B) (hWB : Wds B) (hc : KCtx (d + 6) K L E) (hn40 : ¬ bz V a = 40) (hw : ¬ (10 ≤ wrI V a j QW ∧ wrI V a j QW ≤ 16)) {W0 : List Int} {r : List Int} {o' : Nat} (hW : W = W0 ++ r.reverse) (ho : o = o' + r.length) (hr : ∀ x ∈ r, 60 ≤ x) (ho6 : o ≤ 6) (hb : b ≤ W0.length) (ht : tpW W0 b (fun x => x < 60))
    (hE : ∀ kk pl, numO V a j 0 99999 = .error (kk, pl) → ErQ B E kk pl)
    (hG : ∀ e v, numO V a j 0 99999 = .ok (e, v) → GKq V B (d + 6) L (skE V e) e (C ++ [1000 + v] ++ r) W0 o' b) : PKq V B (d + 6) K a j C W o b := by
  intro H y2 y3 y4 y5 h
  have hm := h.mv
  have k5 := h.k5
  have f := mq_f (hm.1.ptr hPB)
  obtain ⟨m15, m16⟩ := mm_no (d := d + 4) hT hWB hm (by omega) (by omega)
  have k5' := hm.1.k5
  have qw := fun {Q} => q_qWordOf (d := d + 2) (Q := Q) hT hPB hWB hm (l := 3) (u := 5)
  have qx := fun {Q} => q_qWordOf (d := d + 2) (Q := Q) hT hPB hWB hm (l := 0) (u := 3)
  rw [qwN _ (by omega)] at qw
  rw [qwP, if_neg (by omega), if_neg (by omega), if_neg (by omega)] at qx
  have b0 : C.length ≤ 1600 := Nat.le_trans (Nat.le_add_right _ _) (Nat.le_trans h.2.2.2.2.2.1 (Nat.le_trans h.sk.2 (tpN_le hT)))
  have b1 : C.length < 1700 := Nat.lt_of_le_of_lt b0 (by decide)
  rw [e_MO_qPartTold_1]
  simp only [k_MO_qPartTold_1, e_MO_qPartTold_2, k_MO_qPartTold_2, e_MO_qPartTold_10, k_MO_qPartTold_10, e_MO_qPartTold_11, k_MO_qPartTold_11, e_MO_qPartTold_12, k_MO_qPartTold_12, rr, sh, Nat.reduceLT, Nat.reduceMul, Int.reduceToNat, Int.reduceGT, Int.reduceGE, Int.reduceNe, true_and, and_true, true_or, or_true, false_or, or_false, and_self, or_self, if_true, if_false, reduceIte, not_true_eq_false, not_false_eq_true, Int.reduceEq, Int.reduceNe, Int.reduceLT, Int.reduceLE, Int.reduceAdd, Int.reduceSub, Int.reduceMul, Int.reduceNeg, Nat.reduceAdd, Nat.reduceLeDiff, Nat.reduceEqDiff, ne_eq, List.length_cons, List.length_nil, Nat.reduceSub, f, k5, h.look hT, qw, hn40, m15, m16]
  rw [e_MO_qPartTold_1]
  simp only [k_MO_qPartTold_1, e_MO_qPartTold_13, k_MO_qPartTold_13, e_MO_qPartTold_14, k_MO_qPartTold_14, e_MO_qPartTold_15, k_MO_qPartTold_15, e_MO_qPartTold_16, k_MO_qPartTold_16, rr, sh, Nat.reduceLT, Nat.reduceMul, Int.reduceToNat, Int.reduceGT, Int.reduceGE, Int.reduceNe, true_and, and_true, true_or, or_true, false_or, or_false, and_self, or_self, if_true, if_false, reduceIte, not_true_eq_false, not_false_eq_true, Int.reduceEq, Int.reduceNe, Int.reduceLT, Int.reduceLE, Int.reduceAdd, Int.reduceSub, Int.reduceMul, Int.reduceNeg, Nat.reduceAdd, Nat.reduceLeDiff, Nat.reduceEqDiff, ne_eq, List.length_cons, List.length_nil, Nat.reduceSub, f, k5', qx]
  refine x_numM (d := d + 4) hT hm.2.1 (fun kk pl z H' r' hF q5 q6 r1 r2 => ?_) (fun e v z H' hF hM q10 => ?_)
  · have p87 : H' 71 87 = 136 := (hF 71 87 rfl).trans (hm.1.ptr hPB (71, 87, 136) (by decide +kernel))
    have e88 : H' 71 88 = (C.length : Nat) := (hF 71 88 rfl).trans hm.1.2.1.1
    have j1 : 0 ≤ (C.length : Int) ∧ (C.length : Int) < 1700 := ix_n b1
    have kw := w32_s (n := C.length) (Nat.lt_trans b1 (by decide))
    have w1 : w32 (1000 + r') = 1000 + r' := w32_id (by clear kw; omega) (by clear kw; omega)
    have nb : hs (hs H' 136 (C.length : Nat) (1000 + r')) 71 88 ((C.length + 1 : Nat) : Int) 71 5 ≠ 0 := by
      rw [hs2 (by decide), hs_ne' (by decide), q5]; exact numO_er z
    have e5 := nb
    have := hc.2.1 _ nb (hE kk pl z _ (((hm.1.fx.tr (hF.up sLM_qm)).hs (c := 136) rfl).hs (c := 71) (j := 88) rfl) (by rw [hs2 (by decide), hs_ne' (by decide)]; exact q5) (by rw [hs2 (by decide), hs_ne' (by decide)]; exact q6) (by unfold BdC; rw [hs_same]; exact ⟨Int.natCast_nonneg _, Int.ofNat_lt.mpr (Nat.lt_of_le_of_lt (Nat.succ_le_succ b0) (by decide))⟩))
    simp only [e_MO_qPartTold_17, k_MO_qPartTold_17, en_MO_qCode, e_MO_qCode_0, k_MO_qCode_0, rr, sh, Nat.reduceLT, Nat.reduceMul, Int.reduceToNat, Int.reduceGT, Int.reduceGE, Int.reduceNe, true_and, and_true, true_or, or_true, false_or, or_false, and_self, or_self, if_true, if_false, reduceIte, not_true_eq_false, not_false_eq_true, Int.reduceEq, Int.reduceNe, Int.reduceLT, Int.reduceLE, Int.reduceAdd, Int.reduceSub, Int.reduceMul, Int.reduceNeg, Nat.reduceAdd, Nat.reduceLeDiff, Nat.reduceEqDiff, ne_eq, List.length_cons, List.length_nil, Nat.reduceSub, hs_app, false_and, and_false, p87, e88, w1, j1, kw, en_MO_qEndsPart]
    have k9 : ¬ H' 71 5 = 0 := by rw [q5]; exact numO_er z
    simp only [k_MO_qEndsPart_0, e_MO_qEndsPart_1, k_MO_qEndsPart_1, rr, sh, Nat.reduceLT, Nat.reduceMul, Int.reduceToNat, Int.reduceGT, Int.reduceGE, Int.reduceNe, true_and, and_true, true_or, or_true, false_or, or_false, and_self, or_self, if_true, if_false, reduceIte, not_true_eq_false, not_false_eq_true, Int.reduceEq, Int.reduceNe, Int.reduceLT, Int.reduceLE, Int.reduceAdd, Int.reduceSub, Int.reduceMul, Int.reduceNeg, Nat.reduceAdd, Nat.reduceLeDiff, Nat.reduceEqDiff, ne_eq, List.length_cons, List.length_nil, Nat.reduceSub, hs_app, false_and, and_false, k9]
    exact this
  · have rg := numO_ok h.sk.2 z
    have hp := hm.1.lm hF hM (a' := skE V e) rfl (Nat.le_trans (Nat.le_of_lt rg.1) (skE_rng rg.2.1).1)
    have hl : C.length + W.length + 1 ≤ skE V e := by
      have := h.2.2.2.2.2.1
      have := (skE_rng rg.2.1).1
      omega
    have hcd := hp.code hl (v := 1000 + v)
    have qc := fun {Q} => q_qCode (d := d + 5) (Q := Q) hT hPB hp (v := 1000 + v)
    have fin := c_ends (d := d + 3) (Q := fun _ => K) hT hPB hb ht r _ _ hr (by omega) (by rw [hW, ho] at hcd; exact hcd) (fun H' h' => k_end hc h' (hG e v z))
    have w1 : w32 (1000 + v) = 1000 + v := w32_id (by omega) (by omega)
    simp only [e_MO_qPartTold_17, k_MO_qPartTold_17, rr, sh, Nat.reduceLT, Nat.reduceMul, Int.reduceToNat, Int.reduceGT, Int.reduceGE, Int.reduceNe, true_and, and_true, true_or, or_true, false_or, or_false, and_self, or_self, if_true, if_false, reduceIte, not_true_eq_false, not_false_eq_true, Int.reduceEq, Int.reduceNe, Int.reduceLT, Int.reduceLE, Int.reduceAdd, Int.reduceSub, Int.reduceMul, Int.reduceNeg, Nat.reduceAdd, Nat.reduceLeDiff, Nat.reduceEqDiff, ne_eq, List.length_cons, List.length_nil, Nat.reduceSub, w1, qc, en_MO_qEndsPart]
    exact fin
end QZ2
