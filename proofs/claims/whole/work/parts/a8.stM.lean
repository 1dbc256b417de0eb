/-! THE BOAT'S TEXT: statements, the reference -/
theorem mo_f {H : Hp} (h : Ptr H) : H 71 11 = 74 ∧ H 71 12 = 75 ∧ H 71 13 = 76 ∧ H 71 14 = 77 ∧ H 71 15 = 78 ∧ H 71 16 = 79 ∧ H 71 17 = 80 ∧ H 71 18 = 81 ∧ H 71 19 = 82 ∧ H 71 20 = 83 ∧ H 71 21 = 84 ∧ H 71 22 = 85 ∧ H 71 23 = 86 ∧ H 71 24 = 87 ∧ H 71 25 = 88 ∧ H 71 26 = 89 ∧ H 71 27 = 90 ∧ H 71 29 = 91 ∧ H 71 30 = 92 ∧ H 71 31 = 93 ∧ H 71 32 = 94 ∧ H 71 33 = 95 ∧ H 71 34 = 96 ∧ H 71 35 = 97 ∧ H 71 36 = 98 ∧ H 71 37 = 99 ∧ H 71 38 = 100 ∧ H 71 39 = 101 ∧ H 71 40 = 102 ∧ H 71 41 = 103 ∧ H 71 42 = 104 ∧ H 71 43 = 105 ∧ H 71 44 = 106 := by
  refine ⟨h (71, 11, 74) (by decide +kernel), h (71, 12, 75) (by decide +kernel), h (71, 13, 76) (by decide +kernel), h (71, 14, 77) (by decide +kernel), h (71, 15, 78) (by decide +kernel), h (71, 16, 79) (by decide +kernel), h (71, 17, 80) (by decide +kernel), h (71, 18, 81) (by decide +kernel), h (71, 19, 82) (by decide +kernel), h (71, 20, 83) (by decide +kernel), h (71, 21, 84) (by decide +kernel), h (71, 22, 85) (by decide +kernel), h (71, 23, 86) (by decide +kernel), h (71, 24, 87) (by decide +kernel), h (71, 25, 88) (by decide +kernel), h (71, 26, 89) (by decide +kernel), h (71, 27, 90) (by decide +kernel), h (71, 29, 91) (by decide +kernel), h (71, 30, 92) (by decide +kernel), h (71, 31, 93) (by decide +kernel), h (71, 32, 94) (by decide +kernel), h (71, 33, 95) (by decide +kernel), h (71, 34, 96) (by decide +kernel), h (71, 35, 97) (by decide +kernel), h (71, 36, 98) (by decide +kernel), h (71, 37, 99) (by decide +kernel), h (71, 38, 100) (by decide +kernel), h (71, 39, 101) (by decide +kernel), h (71, 40, 102) (by decide +kernel), h (71, 41, 103) (by decide +kernel), h (71, 42, 104) (by decide +kernel), h (71, 43, 105) (by decide +kernel), h (71, 44, 106) (by decide +kernel)⟩
section PJ
variable {d : Nat} {V P H : Hp} {Q : AV → Hp → Prop}
theorem sTM_fh {a b : Int} (h : fh a b = true) : sTM a b = true := by
  unfold sTM
  rw [if_neg (fh_71 h)]
  exact h
theorem MRd.put {a : Nat} {j : Int} (h : MRd V H a j) {c i v : Int} (h1 : c ≠ 71) (h2 : c ≠ 72) : MRd V (hs H c i v) a j := by
  have e1 : hs H c i v 71 = H 71 := hs_ne (fun z => h1 z.symm)
  have e2 : hs H c i v 72 = H 72 := hs_ne (fun z => h2 z.symm)
  unfold MRd TmV at h ⊢
  rw [e1, e2]
  exact h
theorem ptr_lm {H' : Hp} (h : Ptr H) (hF : Fx sLM H H') : Ptr H' := ptr_fx h hF (by decide +kernel)
theorem wds_lm {H' : Hp} (h : Wds H) (hF : Fx sLM H H') : Wds H' := wds_fx h hF (by decide +kernel)
theorem fx_lt {H' : Hp} (hF : Fx sLM H H') : Fx sTM H H' := hF.up sLM_sTM
theorem q_isFull {k room b n : Int} (hb : H 71 5 = 0) (hP : Ptr H) (hk : 0 ≤ k ∧ k < 8) (hn : H 91 k = n) : CC (d + 1) MO_isFull [va 71, vi k, vi room, vi b] H Q = if n = room then Q (vi 1) (hs (hs H 71 5 5) 71 6 b) else Q (vi 0) H := by
  have p29 : H 71 29 = 91 := hP (71, 29, 91) (by decide +kernel)
  by_cases c : n = room
  · subst c
    rw [if_pos rfl]
    refine CC_dt fun Q hQ => ?_
    have b5 : hs (hs H 71 5 5) 71 6 b 71 5 = 5 := (hs2 (by decide)).trans hs_same
    simp only [en_MO_isFull, e_MO_isFull_0, k_MO_isFull_0, e_MO_isFull_1, k_MO_isFull_1, e_MO_isFull_2, k_MO_isFull_2, e_MO_isFull_3, k_MO_isFull_3, rr, sh, Nat.reduceLT, Nat.reduceMul, Int.reduceToNat, Int.reduceGT, Int.reduceGE, Int.reduceNe, true_and, and_true, true_or, or_true, false_or, or_false, and_self, or_self, if_true, if_false, reduceIte, not_true_eq_false, not_false_eq_true, Int.reduceEq, Int.reduceNe, Int.reduceLT, Int.reduceLE, Int.reduceAdd, Int.reduceSub, Int.reduceMul, Int.reduceNeg, Nat.reduceAdd, Nat.reduceLeDiff, Nat.reduceEqDiff, ne_eq, List.length_cons, List.length_nil, Nat.reduceSub, hb, p29, hk, hn, q_failM hb, b5, eq_self]
    exact hQ
  · rw [if_neg c]
    refine CC_dt fun Q hQ => ?_
    simp only [en_MO_isFull, e_MO_isFull_0, k_MO_isFull_0, e_MO_isFull_1, k_MO_isFull_1, e_MO_isFull_2, k_MO_isFull_2, e_MO_isFull_3, k_MO_isFull_3, rr, sh, Nat.reduceLT, Nat.reduceMul, Int.reduceToNat, Int.reduceGT, Int.reduceGE, Int.reduceNe, true_and, and_true, true_or, or_true, false_or, or_false, and_self, or_self, if_true, if_false, reduceIte, not_true_eq_false, not_false_eq_true, Int.reduceEq, Int.reduceNe, Int.reduceLT, Int.reduceLE, Int.reduceAdd, Int.reduceSub, Int.reduceMul, Int.reduceNeg, Nat.reduceAdd, Nat.reduceLeDiff, Nat.reduceEqDiff, ne_eq, List.length_cons, List.length_nil, Nat.reduceSub, hb, p29, hk, hn, c]
    exact hQ
theorem x_wdMO (hT : TapeR V) {a : Nat} {j : Int} (hM : MRd V H a j) (hW : Wds H) {i : Nat} (hi : i < 17) {c : Int} (hc : c = 74 + i)
    (he : ∀ kk p, wdO V a j (OW.getD i []) = .error (kk, p) → ∀ H', Fx sLM H H' → H' 71 5 = kk → H' 71 6 = p → Q vu H')
    (ho : ∀ e v, wdO V a j (OW.getD i []) = .ok (e, v) → ∀ H', Fx sLM H H' → MRd V H' e e → Q vu H') : CC (d + 3) MO_asks [va 71, va c] H Q := by
  subst hc
  exact x_wdM hT hM (by omega) (chO hW hi) (lnO hi).1 he ho
theorem x_tkMO (hT : TapeR V) {a : Nat} {j : Int} (hM : MRd V H a j) (hW : Wds H) {i : Nat} (hi : i < 17) {c : Int} (hc : c = 74 + i)
    (he : hereB V a j (OW.getD i []) = false → ∀ H', Fx sLM H H' → MRd V H' (skE V a) j → Q (vi 0) H')
    (ho : hereB V a j (OW.getD i []) = true → ∀ H', Fx sLM H H' → MRd V H' (enE V a) (enE V a) → Q (vi 1) H') : CC (d + 2) MO_takes [va 71, va c] H Q := by
  subst hc
  exact x_tkM hT hM (by omega) (chO hW hi) (lnO hi).1 he ho
set_option maxRecDepth 20000 in
theorem c_seatToldM (hP : Ptr H) (hW : Wds H) (hT : TapeR V) {a : Nat} {j b : Int} (hM : MRd V H a j) (hB : TxB P) (hL : TmP P H)
    (hfull : sTx P = 12 → ∀ H', Fx sTM H H' → H' 71 5 = 5 → H' 71 6 = b → Q vu H')
    (he : ¬ sTx P = 12 → ∀ kk pl, seatO V a j P = .error (kk, pl) → ∀ H', Fx sTM H H' → H' 71 5 = kk → H' 71 6 = pl → Q vu H')
    (ho : ¬ sTx P = 12 → ∀ e P', seatO V a j P = .ok (e, P') → ∀ H', Fx sTM H H' → MRd V H' e e → TmP P' H' → Q vu H') : CC (d + 4) MO_seatTold [va 71, vi b] H Q := by
  have hb := hM.2.2.2.1
  have h0 : H 91 0 = sTx P := (hL 91 0 rfl).trans hB.1.1
  have f := mo_f hP
  by_cases c : sTx P = 12
  · have c' : ((sTx P : Nat) : Int) = 12 := by rw [c]; rfl
    have qf : ∀ {Q : AV → Hp → Prop}, CC (d + 3) MO_isFull [va 71, vi 0, vi 12, vi b] H Q = Q (vi 1) (hs (hs H 71 5 5) 71 6 b) := fun {Q} => by rw [q_isFull (d := d + 2) hb hP (by decide) h0, if_pos c']
    simp only [en_MO_seatTold, e_MO_seatTold_0, k_MO_seatTold_0, rr, sh, Nat.reduceLT, Nat.reduceMul, Int.reduceToNat, Int.reduceGT, Int.reduceGE, Int.reduceNe, true_and, and_true, true_or, or_true, false_or, or_false, and_self, or_self, if_true, if_false, reduceIte, not_true_eq_false, not_false_eq_true, Int.reduceEq, Int.reduceNe, Int.reduceLT, Int.reduceLE, Int.reduceAdd, Int.reduceSub, Int.reduceMul, Int.reduceNeg, Nat.reduceAdd, Nat.reduceLeDiff, Nat.reduceEqDiff, ne_eq, List.length_cons, List.length_nil, Nat.reduceSub, qf]
    exact hfull c _ ((Fx.rf.hs (c := 71) (j := 5) rfl).hs (c := 71) (j := 6) rfl) ((hs2 (by decide)).trans hs_same) hs_same
  · have he := he c
    have ho := ho c
    have c' : ¬ ((sTx P : Nat) : Int) = 12 := by omega
    have n12 : sTx P < 12 := by have := hB.1.2; omega
    have qf : ∀ {Q : AV → Hp → Prop}, CC (d + 3) MO_isFull [va 71, vi 0, vi 12, vi b] H Q = Q (vi 0) H := fun {Q} => by rw [q_isFull (d := d + 2) hb hP (by decide) h0, if_neg c']
    simp only [en_MO_seatTold, e_MO_seatTold_0, k_MO_seatTold_0, e_MO_seatTold_1, k_MO_seatTold_1, rr, sh, Nat.reduceLT, Nat.reduceMul, Int.reduceToNat, Int.reduceGT, Int.reduceGE, Int.reduceNe, true_and, and_true, true_or, or_true, false_or, or_false, and_self, or_self, if_true, if_false, reduceIte, not_true_eq_false, not_false_eq_true, Int.reduceEq, Int.reduceNe, Int.reduceLT, Int.reduceLE, Int.reduceAdd, Int.reduceSub, Int.reduceMul, Int.reduceNeg, Nat.reduceAdd, Nat.reduceLeDiff, Nat.reduceEqDiff, ne_eq, List.length_cons, List.length_nil, Nat.reduceSub, qf, f, h0]
    clear f
    refine x_numM (d := d + 2) hT hM (fun kk pl e H' r hF q5 q6 r1 r2 => ?_) (fun e v eo H1 hF1 hM1 q10 => ?_)
    · have k0 : H' 71 5 ≠ 0 := by rw [q5]; exact numO_er e
      have f := mo_f (ptr_lm hP hF)
      simp only [e_MO_seatTold_2, k_MO_seatTold_2, rr, sh, Nat.reduceLT, Nat.reduceMul, Int.reduceToNat, Int.reduceGT, Int.reduceGE, Int.reduceNe, true_and, and_true, true_or, or_true, false_or, or_false, and_self, or_self, if_true, if_false, reduceIte, not_true_eq_false, not_false_eq_true, Int.reduceEq, Int.reduceNe, Int.reduceLT, Int.reduceLE, Int.reduceAdd, Int.reduceSub, Int.reduceMul, Int.reduceNeg, Nat.reduceAdd, Nat.reduceLeDiff, Nat.reduceEqDiff, ne_eq, List.length_cons, List.length_nil, Nat.reduceSub, f, k0, q_asks' k0, q_number' k0]
      exact he kk pl (by unfold seatO; rw [e]; try rfl) H' (fx_lt hF) q5 q6
    · have k0 := hM1.2.2.2.1
      have hP1 := ptr_lm hP hF1
      have hL1 := hL.lm hF1
      have r1 := numO_ok hM.2.2.2.2.2 eo
      have f := mo_f hP1
      by_cases c2 : sAt P v = -1
      · simp only [e_MO_seatTold_2, k_MO_seatTold_2, rr, sh, Nat.reduceLT, Nat.reduceMul, Int.reduceToNat, Int.reduceGT, Int.reduceGE, Int.reduceNe, true_and, and_true, true_or, or_true, false_or, or_false, and_self, or_self, if_true, if_false, reduceIte, not_true_eq_false, not_false_eq_true, Int.reduceEq, Int.reduceNe, Int.reduceLT, Int.reduceLE, Int.reduceAdd, Int.reduceSub, Int.reduceMul, Int.reduceNeg, Nat.reduceAdd, Nat.reduceLeDiff, Nat.reduceEqDiff, ne_eq, List.length_cons, List.length_nil, Nat.reduceSub, k0, q_seatAtM hP1 hB hL1, c2, f]
        clear f
        refine x_wdMO (d := d) (i := 1) hT hM1 (wds_lm hW hF1) (by decide) rfl (fun kk pl e2 H' hF q5 q6 => ?_) (fun e2 u eo2 H2 hF2 hM2 => ?_)
        · have k1 : H' 71 5 ≠ 0 := by rw [q5]; exact wdO_er e2
          simp only [rr, sh, Nat.reduceLT, Nat.reduceMul, Int.reduceToNat, Int.reduceGT, Int.reduceGE, Int.reduceNe, true_and, and_true, true_or, or_true, false_or, or_false, and_self, or_self, if_true, if_false, reduceIte, not_true_eq_false, not_false_eq_true, Int.reduceEq, Int.reduceNe, Int.reduceLT, Int.reduceLE, Int.reduceAdd, Int.reduceSub, Int.reduceMul, Int.reduceNeg, Nat.reduceAdd, Nat.reduceLeDiff, Nat.reduceEqDiff, ne_eq, List.length_cons, List.length_nil, Nat.reduceSub, k1, q_number' k1]
          exact he kk pl (by unfold seatO; rw [eo]; simp only [if_pos c2, e2]) H' (fx_lt (hF1.tr hF)) q5 q6
        · refine x_numM (d := d + 2) hT hM2 (fun kk pl e3 H' r hF q5 q6 _ _ => ?_) (fun e3 w eo3 H3 hF3 hM3 q10' => ?_)
          · have k1 : H' 71 5 ≠ 0 := by rw [q5]; exact numO_er e3
            simp only [rr, sh, Nat.reduceLT, Nat.reduceMul, Int.reduceToNat, Int.reduceGT, Int.reduceGE, Int.reduceNe, true_and, and_true, true_or, or_true, false_or, or_false, and_self, or_self, if_true, if_false, reduceIte, not_true_eq_false, not_false_eq_true, Int.reduceEq, Int.reduceNe, Int.reduceLT, Int.reduceLE, Int.reduceAdd, Int.reduceSub, Int.reduceMul, Int.reduceNeg, Nat.reduceAdd, Nat.reduceLeDiff, Nat.reduceEqDiff, ne_eq, List.length_cons, List.length_nil, Nat.reduceSub, k1]
            exact he kk pl (by unfold seatO; rw [eo]; simp only [if_pos c2, eo2, e3]) H' (fx_lt ((hF1.tr hF2).tr hF)) q5 q6
          · have k1 := hM3.2.2.2.1
            have F3 : Fx sLM H H3 := (hF1.tr hF2).tr hF3
            have f := mo_f (ptr_lm hP F3)
            have hL3 := hL.lm F3
            have h3 : H3 91 0 = sTx P := (hL3 91 0 rfl).trans hB.1.1
            have j1 : 0 ≤ (sTx P : Int) ∧ (sTx P : Int) < 24 := ix_n (Nat.lt_trans n12 (by decide))
            have kw := w32_s (n := sTx P) (Nat.lt_trans n12 (by decide))
            simp only [e_MO_seatTold_3, k_MO_seatTold_3, rr, sh, Nat.reduceLT, Nat.reduceMul, Int.reduceToNat, Int.reduceGT, Int.reduceGE, Int.reduceNe, true_and, and_true, true_or, or_true, false_or, or_false, and_self, or_self, if_true, if_false, reduceIte, not_true_eq_false, not_false_eq_true, Int.reduceEq, Int.reduceNe, Int.reduceLT, Int.reduceLE, Int.reduceAdd, Int.reduceSub, Int.reduceMul, Int.reduceNeg, Nat.reduceAdd, Nat.reduceLeDiff, Nat.reduceEqDiff, ne_eq, List.length_cons, List.length_nil, Nat.reduceSub, f, k1, hs_app, false_and, and_false, h3, j1, kw]
            exact ho e3 _ (by unfold seatO; rw [eo]; simp only [if_pos c2, eo2, eo3]; rfl) _ (((((fx_lt F3).hs (sTM_fh (fh12 (by decide) n12))).hs (sTM_fh (fh12 (by decide) n12))).hs (sTM_fh (fh12 (by decide) n12))).hs (c := 91) (j := 0) rfl) ((((hM3.put (by decide) (by decide)).put (by decide) (by decide)).put (by decide) (by decide)).put (by decide) (by decide)) hL3.put.put.put.put
      · have k1 : hs (hs H1 71 5 2) 71 6 (skE V a) 71 5 ≠ 0 := by rw [hs2 (by decide), hs_same]; decide
        have g12 : hs (hs H1 71 5 2) 71 6 (skE V a) 71 12 = 75 := by rw [hs2 (by decide), hs2 (by decide)]; exact f.2.1
        simp only [e_MO_seatTold_2, k_MO_seatTold_2, rr, sh, Nat.reduceLT, Nat.reduceMul, Int.reduceToNat, Int.reduceGT, Int.reduceGE, Int.reduceNe, true_and, and_true, true_or, or_true, false_or, or_false, and_self, or_self, if_true, if_false, reduceIte, not_true_eq_false, not_false_eq_true, Int.reduceEq, Int.reduceNe, Int.reduceLT, Int.reduceLE, Int.reduceAdd, Int.reduceSub, Int.reduceMul, Int.reduceNeg, Nat.reduceAdd, Nat.reduceLeDiff, Nat.reduceEqDiff, ne_eq, List.length_cons, List.length_nil, Nat.reduceSub, k0, q_seatAtM hP1 hB hL1, c2, q10, q_failM k0, f, g12, k1, q_asks' k1, q_number' k1]
        exact he 2 (skE V a) (by unfold seatO; rw [eo]; simp only [if_neg c2]) _ (fx_lt ((hF1.hs (c := 71) (j := 5) rfl).hs (c := 71) (j := 6) rfl)) ((hs2 (by decide)).trans hs_same) hs_same
set_option maxRecDepth 20000 in
theorem c_payToldM (hP : Ptr H) (hW : Wds H) (hT : TapeR V) {a : Nat} {j b : Int} (hM : MRd V H a j) (hB : TxB P) (hL : TmP P H)
    (hfull : yTx P = 12 → ∀ H', Fx sTM H H' → H' 71 5 = 5 → H' 71 6 = b → Q vu H')
    (he : ¬ yTx P = 12 → ∀ kk pl, payO V a j P = .error (kk, pl) → ∀ H', Fx sTM H H' → H' 71 5 = kk → H' 71 6 = pl → Q vu H')
    (ho : ¬ yTx P = 12 → ∀ e P', payO V a j P = .ok (e, P') → ∀ H', Fx sTM H H' → MRd V H' e e → TmP P' H' → Q vu H') : CC (d + 4) MO_payTold [va 71, vi b] H Q := by
  have hb := hM.2.2.2.1
  have h0 : H 91 3 = yTx P := (hL 91 3 rfl).trans hB.2.2.2.1.1
  have f := mo_f hP
  by_cases c : yTx P = 12
  · have c' : ((yTx P : Nat) : Int) = 12 := by rw [c]; rfl
    have qf : ∀ {Q : AV → Hp → Prop}, CC (d + 3) MO_isFull [va 71, vi 3, vi 12, vi b] H Q = Q (vi 1) (hs (hs H 71 5 5) 71 6 b) := fun {Q} => by rw [q_isFull (d := d + 2) hb hP (by decide) h0, if_pos c']
    simp only [en_MO_payTold, e_MO_payTold_0, k_MO_payTold_0, rr, sh, Nat.reduceLT, Nat.reduceMul, Int.reduceToNat, Int.reduceGT, Int.reduceGE, Int.reduceNe, true_and, and_true, true_or, or_true, false_or, or_false, and_self, or_self, if_true, if_false, reduceIte, not_true_eq_false, not_false_eq_true, Int.reduceEq, Int.reduceNe, Int.reduceLT, Int.reduceLE, Int.reduceAdd, Int.reduceSub, Int.reduceMul, Int.reduceNeg, Nat.reduceAdd, Nat.reduceLeDiff, Nat.reduceEqDiff, ne_eq, List.length_cons, List.length_nil, Nat.reduceSub, qf]
    exact hfull c _ ((Fx.rf.hs (c := 71) (j := 5) rfl).hs (c := 71) (j := 6) rfl) ((hs2 (by decide)).trans hs_same) hs_same
  · have he := he c
    have ho := ho c
    have c' : ¬ ((yTx P : Nat) : Int) = 12 := by omega
    have n12 : yTx P < 12 := by have := hB.2.2.2.1.2; omega
    have qf : ∀ {Q : AV → Hp → Prop}, CC (d + 3) MO_isFull [va 71, vi 3, vi 12, vi b] H Q = Q (vi 0) H := fun {Q} => by rw [q_isFull (d := d + 2) hb hP (by decide) h0, if_neg c']
    simp only [en_MO_payTold, e_MO_payTold_0, k_MO_payTold_0, e_MO_payTold_1, k_MO_payTold_1, rr, sh, Nat.reduceLT, Nat.reduceMul, Int.reduceToNat, Int.reduceGT, Int.reduceGE, Int.reduceNe, true_and, and_true, true_or, or_true, false_or, or_false, and_self, or_self, if_true, if_false, reduceIte, not_true_eq_false, not_false_eq_true, Int.reduceEq, Int.reduceNe, Int.reduceLT, Int.reduceLE, Int.reduceAdd, Int.reduceSub, Int.reduceMul, Int.reduceNeg, Nat.reduceAdd, Nat.reduceLeDiff, Nat.reduceEqDiff, ne_eq, List.length_cons, List.length_nil, Nat.reduceSub, qf]
    clear f
    refine x_numM (d := d + 2) hT hM (fun kk pl e H' r hF q5 q6 r1 r2 => ?_) (fun e v eo H1 hF1 hM1 q10 => ?_)
    · have k0 : H' 71 5 ≠ 0 := by rw [q5]; exact numO_er e
      have f := mo_f (ptr_lm hP hF)
      simp only [rr, sh, Nat.reduceLT, Nat.reduceMul, Int.reduceToNat, Int.reduceGT, Int.reduceGE, Int.reduceNe, true_and, and_true, true_or, or_true, false_or, or_false, and_self, or_self, if_true, if_false, reduceIte, not_true_eq_false, not_false_eq_true, Int.reduceEq, Int.reduceNe, Int.reduceLT, Int.reduceLE, Int.reduceAdd, Int.reduceSub, Int.reduceMul, Int.reduceNeg, Nat.reduceAdd, Nat.reduceLeDiff, Nat.reduceEqDiff, ne_eq, List.length_cons, List.length_nil, Nat.reduceSub, f, k0, q_asks' k0, q_number' k0]
      exact he kk pl (by unfold payO; rw [e]; try rfl) H' (fx_lt hF) q5 q6
    · have f := mo_f (ptr_lm hP hF1)
      simp only [rr, sh, Nat.reduceLT, Nat.reduceMul, Int.reduceToNat, Int.reduceGT, Int.reduceGE, Int.reduceNe, true_and, and_true, true_or, or_true, false_or, or_false, and_self, or_self, if_true, if_false, reduceIte, not_true_eq_false, not_false_eq_true, Int.reduceEq, Int.reduceNe, Int.reduceLT, Int.reduceLE, Int.reduceAdd, Int.reduceSub, Int.reduceMul, Int.reduceNeg, Nat.reduceAdd, Nat.reduceLeDiff, Nat.reduceEqDiff, ne_eq, List.length_cons, List.length_nil, Nat.reduceSub, f]
      clear f
      refine x_wdMO (d := d) (i := 16) hT hM1 (wds_lm hW hF1) (by decide) rfl (fun kk pl e2 H' hF q5 q6 => ?_) (fun e2 u eo2 H2 hF2 hM2 => ?_)
      · have k1 : H' 71 5 ≠ 0 := by rw [q5]; exact wdO_er e2
        simp only [rr, sh, Nat.reduceLT, Nat.reduceMul, Int.reduceToNat, Int.reduceGT, Int.reduceGE, Int.reduceNe, true_and, and_true, true_or, or_true, false_or, or_false, and_self, or_self, if_true, if_false, reduceIte, not_true_eq_false, not_false_eq_true, Int.reduceEq, Int.reduceNe, Int.reduceLT, Int.reduceLE, Int.reduceAdd, Int.reduceSub, Int.reduceMul, Int.reduceNeg, Nat.reduceAdd, Nat.reduceLeDiff, Nat.reduceEqDiff, ne_eq, List.length_cons, List.length_nil, Nat.reduceSub, k1, q_number' k1]
        exact he kk pl (by unfold payO; rw [eo]; simp only [e2]) H' (fx_lt (hF1.tr hF)) q5 q6
      · refine x_numM (d := d + 2) hT hM2 (fun kk pl e3 H' r hF q5 q6 _ _ => ?_) (fun e3 w eo3 H3 hF3 hM3 q10' => ?_)
        · have k1 : H' 71 5 ≠ 0 := by rw [q5]; exact numO_er e3
          simp only [rr, sh, Nat.reduceLT, Nat.reduceMul, Int.reduceToNat, Int.reduceGT, Int.reduceGE, Int.reduceNe, true_and, and_true, true_or, or_true, false_or, or_false, and_self, or_self, if_true, if_false, reduceIte, not_true_eq_false, not_false_eq_true, Int.reduceEq, Int.reduceNe, Int.reduceLT, Int.reduceLE, Int.reduceAdd, Int.reduceSub, Int.reduceMul, Int.reduceNeg, Nat.reduceAdd, Nat.reduceLeDiff, Nat.reduceEqDiff, ne_eq, List.length_cons, List.length_nil, Nat.reduceSub, k1]
          exact he kk pl (by unfold payO; rw [eo]; simp only [eo2, e3]) H' (fx_lt ((hF1.tr hF2).tr hF)) q5 q6
        · have k1 := hM3.2.2.2.1
          have F3 : Fx sLM H H3 := (hF1.tr hF2).tr hF3
          have f := mo_f (ptr_lm hP F3)
          have hL3 := hL.lm F3
          have h3 : H3 91 3 = yTx P := (hL3 91 3 rfl).trans hB.2.2.2.1.1
          have j1 : 0 ≤ (yTx P : Int) ∧ (yTx P : Int) < 24 := ix_n (Nat.lt_trans n12 (by decide))
          have kw := w32_s (n := yTx P) (Nat.lt_trans n12 (by decide))
          simp only [e_MO_payTold_2, k_MO_payTold_2, rr, sh, Nat.reduceLT, Nat.reduceMul, Int.reduceToNat, Int.reduceGT, Int.reduceGE, Int.reduceNe, true_and, and_true, true_or, or_true, false_or, or_false, and_self, or_self, if_true, if_false, reduceIte, not_true_eq_false, not_false_eq_true, Int.reduceEq, Int.reduceNe, Int.reduceLT, Int.reduceLE, Int.reduceAdd, Int.reduceSub, Int.reduceMul, Int.reduceNeg, Nat.reduceAdd, Nat.reduceLeDiff, Nat.reduceEqDiff, ne_eq, List.length_cons, List.length_nil, Nat.reduceSub, f, k1, hs_app, false_and, and_false, h3, j1, kw]
          exact ho e3 _ (by unfold payO; rw [eo]; simp only [eo2, eo3]; rfl) _ ((((fx_lt F3).hs (sTM_fh (fh12 (by decide) n12))).hs (sTM_fh (fh12 (by decide) n12))).hs (c := 91) (j := 3) rfl) (((hM3.put (by decide) (by decide)).put (by decide) (by decide)).put (by decide) (by decide)) hL3.put.put.put
set_option maxRecDepth 20000 in
theorem c_wantToldM (hP : Ptr H) (hW : Wds H) (hT : TapeR V) {a : Nat} {j : Int} (hM : MRd V H a j) (hL : TmP P H)
    (he : ∀ kk pl, wantO V a j P = .error (kk, pl) → ∀ H', Fx sTM H H' → H' 71 5 = kk → H' 71 6 = pl → Q vu H')
    (ho : ∀ e P', wantO V a j P = .ok (e, P') → ∀ H', Fx sTM H H' → MRd V H' e e → TmP P' H' → Q vu H') : CC (d + 4) MO_wantTold [va 71] H Q := by
  simp only [en_MO_wantTold, e_MO_wantTold_0, k_MO_wantTold_0, rr, sh, Nat.reduceLT, Nat.reduceMul, Int.reduceToNat, Int.reduceGT, Int.reduceGE, Int.reduceNe, true_and, and_true, true_or, or_true, false_or, or_false, and_self, or_self, if_true, if_false, reduceIte, not_true_eq_false, not_false_eq_true, Int.reduceEq, Int.reduceNe, Int.reduceLT, Int.reduceLE, Int.reduceAdd, Int.reduceSub, Int.reduceMul, Int.reduceNeg, Nat.reduceAdd, Nat.reduceLeDiff, Nat.reduceEqDiff, ne_eq, List.length_cons, List.length_nil, Nat.reduceSub]
  refine x_numM (d := d + 2) hT hM (fun kk pl e H' r hF q5 q6 r1 r2 => ?_) (fun e v eo H1 hF1 hM1 q10 => ?_)
  · have k0 : H' 71 5 ≠ 0 := by rw [q5]; exact numO_er e
    have f := mo_f (ptr_lm hP hF)
    simp only [rr, sh, Nat.reduceLT, Nat.reduceMul, Int.reduceToNat, Int.reduceGT, Int.reduceGE, Int.reduceNe, true_and, and_true, true_or, or_true, false_or, or_false, and_self, or_self, if_true, if_false, reduceIte, not_true_eq_false, not_false_eq_true, Int.reduceEq, Int.reduceNe, Int.reduceLT, Int.reduceLE, Int.reduceAdd, Int.reduceSub, Int.reduceMul, Int.reduceNeg, Nat.reduceAdd, Nat.reduceLeDiff, Nat.reduceEqDiff, ne_eq, List.length_cons, List.length_nil, Nat.reduceSub, f, k0, q_asks' k0, q_signed' k0]
    exact he kk pl (by unfold wantO; rw [e]; try rfl) H' (fx_lt hF) q5 q6
  · have r1 := numO_ok hM.2.2.2.2.2 eo
    have f := mo_f (ptr_lm hP hF1)
    simp only [rr, sh, Nat.reduceLT, Nat.reduceMul, Int.reduceToNat, Int.reduceGT, Int.reduceGE, Int.reduceNe, true_and, and_true, true_or, or_true, false_or, or_false, and_self, or_self, if_true, if_false, reduceIte, not_true_eq_false, not_false_eq_true, Int.reduceEq, Int.reduceNe, Int.reduceLT, Int.reduceLE, Int.reduceAdd, Int.reduceSub, Int.reduceMul, Int.reduceNeg, Nat.reduceAdd, Nat.reduceLeDiff, Nat.reduceEqDiff, ne_eq, List.length_cons, List.length_nil, Nat.reduceSub, f]
    clear f
    refine x_wdMO (d := d) (i := 10) hT hM1 (wds_lm hW hF1) (by decide) rfl (fun kk pl e2 H' hF q5 q6 => ?_) (fun e2 u eo2 H2 hF2 hM2 => ?_)
    · have k1 : H' 71 5 ≠ 0 := by rw [q5]; exact wdO_er e2
      simp only [rr, sh, Nat.reduceLT, Nat.reduceMul, Int.reduceToNat, Int.reduceGT, Int.reduceGE, Int.reduceNe, true_and, and_true, true_or, or_true, false_or, or_false, and_self, or_self, if_true, if_false, reduceIte, not_true_eq_false, not_false_eq_true, Int.reduceEq, Int.reduceNe, Int.reduceLT, Int.reduceLE, Int.reduceAdd, Int.reduceSub, Int.reduceMul, Int.reduceNeg, Nat.reduceAdd, Nat.reduceLeDiff, Nat.reduceEqDiff, ne_eq, List.length_cons, List.length_nil, Nat.reduceSub, k1, q_signed' k1]
      exact he kk pl (by unfold wantO; rw [eo]; simp only [e2]) H' (fx_lt (hF1.tr hF)) q5 q6
    · refine x_sigM (d := d + 1) hT (by decide) hM2 (fun kk pl e3 H' r hF q5 q6 _ _ => ?_) (fun e3 w eo3 H3 hF3 hM3 => ?_)
      · have k1 : H' 71 5 ≠ 0 := by rw [q5]; exact sigO_er e3
        simp only [rr, sh, Nat.reduceLT, Nat.reduceMul, Int.reduceToNat, Int.reduceGT, Int.reduceGE, Int.reduceNe, true_and, and_true, true_or, or_true, false_or, or_false, and_self, or_self, if_true, if_false, reduceIte, not_true_eq_false, not_false_eq_true, Int.reduceEq, Int.reduceNe, Int.reduceLT, Int.reduceLE, Int.reduceAdd, Int.reduceSub, Int.reduceMul, Int.reduceNeg, Nat.reduceAdd, Nat.reduceLeDiff, Nat.reduceEqDiff, ne_eq, List.length_cons, List.length_nil, Nat.reduceSub, k1]
        exact he kk pl (by unfold wantO; rw [eo]; simp only [eo2, e3]) H' (fx_lt ((hF1.tr hF2).tr hF)) q5 q6
      · have k1 := hM3.2.2.2.1
        have F3 : Fx sLM H H3 := (hF1.tr hF2).tr hF3
        have f := mo_f (ptr_lm hP F3)
        have hL3 := hL.lm F3
        have j1 : 0 ≤ v ∧ v < 8 := ⟨r1.2.2.1, Int.lt_of_le_of_lt r1.2.2.2.1 (by decide)⟩
        have fw : fh 100 v = true ∧ fh 101 v = true := by
          have a1 := r1.2.2.1
          have a2 := r1.2.2.2.1
          exact ⟨decide_eq_true (by omega), decide_eq_true (by omega)⟩
        simp only [e_MO_wantTold_1, k_MO_wantTold_1, rr, sh, Nat.reduceLT, Nat.reduceMul, Int.reduceToNat, Int.reduceGT, Int.reduceGE, Int.reduceNe, true_and, and_true, true_or, or_true, false_or, or_false, and_self, or_self, if_true, if_false, reduceIte, not_true_eq_false, not_false_eq_true, Int.reduceEq, Int.reduceNe, Int.reduceLT, Int.reduceLE, Int.reduceAdd, Int.reduceSub, Int.reduceMul, Int.reduceNeg, Nat.reduceAdd, Nat.reduceLeDiff, Nat.reduceEqDiff, ne_eq, List.length_cons, List.length_nil, Nat.reduceSub, f, k1, hs_app, false_and, and_false, j1]
        exact ho e3 _ (by unfold wantO; rw [eo]; simp only [eo2, eo3]; rfl) _ (((fx_lt F3).hs (sTM_fh fw.1)).hs (sTM_fh fw.2)) ((hM3.put (by decide) (by decide)).put (by decide) (by decide)) hL3.put.put
theorem two_w {a : Nat} {j : Int} (h7 : hereB V a j (OW.getD 7 []) = true) : ¬ hereB V a j (OW.getD 8 []) = true := by
  intro h8
  unfold hereB at h7 h8
  rw [Bool.and_eq_true] at h7 h8
  have := wdB_one h7.2 h8.2
  exact absurd this (by decide)
set_option maxRecDepth 20000 in
theorem c_fixToldM (hP : Ptr H) (hW : Wds H) (hT : TapeR V) {a : Nat} {j : Int} (hM : MRd V H a j) (hB : TxB P) (hL : TmP P H)
    (he : ∀ kk pl, fixO V a j P = .error (kk, pl) → ∀ H', Fx sTM H H' → H' 71 5 = kk → H' 71 6 = pl → Q vu H')
    (ho : ∀ e P', fixO V a j P = .ok (e, P') → ∀ H', Fx sTM H H' → MRd V H' e e → TmP P' H' → Q vu H') : CC (d + 4) MO_fixTold [va 71] H Q := by
  simp only [en_MO_fixTold, e_MO_fixTold_0, k_MO_fixTold_0, rr, sh, Nat.reduceLT, Nat.reduceMul, Int.reduceToNat, Int.reduceGT, Int.reduceGE, Int.reduceNe, true_and, and_true, true_or, or_true, false_or, or_false, and_self, or_self, if_true, if_false, reduceIte, not_true_eq_false, not_false_eq_true, Int.reduceEq, Int.reduceNe, Int.reduceLT, Int.reduceLE, Int.reduceAdd, Int.reduceSub, Int.reduceMul, Int.reduceNeg, Nat.reduceAdd, Nat.reduceLeDiff, Nat.reduceEqDiff, ne_eq, List.length_cons, List.length_nil, Nat.reduceSub]
  refine x_numM (d := d + 2) hT hM (fun kk pl e H' r hF q5 q6 r1 r2 => ?_) (fun e v eo H1 hF1 hM1 q10 => ?_)
  · have k0 : H' 71 5 ≠ 0 := by rw [q5]; exact numO_er e
    have hP1 := ptr_lm hP hF
    have f := mo_f hP1
    simp only [e_MO_fixTold_1, k_MO_fixTold_1, e_MO_fixTold_2, k_MO_fixTold_2, e_MO_fixTold_5, k_MO_fixTold_5, rr, sh, Nat.reduceLT, Nat.reduceMul, Int.reduceToNat, Int.reduceGT, Int.reduceGE, Int.reduceNe, true_and, and_true, true_or, or_true, false_or, or_false, and_self, or_self, if_true, if_false, reduceIte, not_true_eq_false, not_false_eq_true, Int.reduceEq, Int.reduceNe, Int.reduceLT, Int.reduceLE, Int.reduceAdd, Int.reduceSub, Int.reduceMul, Int.reduceNeg, Nat.reduceAdd, Nat.reduceLeDiff, Nat.reduceEqDiff, ne_eq, List.length_cons, List.length_nil, Nat.reduceSub, f, k0, q_seatAtM hP1 hB (hL.lm hF), q_takes' k0, q_asks' k0]
    exact he kk pl (by unfold fixO; rw [e]; try rfl) H' (fx_lt hF) q5 q6
  · have hP1 := ptr_lm hP hF1
    have hL1 := hL.lm hF1
    have k0 := hM1.2.2.2.1
    have en : e ≤ tpN V := hM1.2.2.2.2.2
    have f := mo_f hP1
    by_cases c : sAt P v = -1
    · have k1 : hs (hs H1 71 5 2) 71 6 (skE V a) 71 5 ≠ 0 := by rw [hs2 (by decide), hs_same]; decide
      have g : ∀ b, b ≠ 5 → b ≠ 6 → hs (hs H1 71 5 2) 71 6 (skE V a) 71 b = H1 71 b := fun b h1 h2 => by rw [hs2 (fun z => h2 z.2), hs2 (fun z => h1 z.2)]
      have g18 := g 18 (by decide) (by decide)
      have g19 := g 19 (by decide) (by decide)
      simp only [e_MO_fixTold_1, k_MO_fixTold_1, e_MO_fixTold_2, k_MO_fixTold_2, e_MO_fixTold_5, k_MO_fixTold_5, rr, sh, Nat.reduceLT, Nat.reduceMul, Int.reduceToNat, Int.reduceGT, Int.reduceGE, Int.reduceNe, true_and, and_true, true_or, or_true, false_or, or_false, and_self, or_self, if_true, if_false, reduceIte, not_true_eq_false, not_false_eq_true, Int.reduceEq, Int.reduceNe, Int.reduceLT, Int.reduceLE, Int.reduceAdd, Int.reduceSub, Int.reduceMul, Int.reduceNeg, Nat.reduceAdd, Nat.reduceLeDiff, Nat.reduceEqDiff, ne_eq, List.length_cons, List.length_nil, Nat.reduceSub, k0, q_seatAtM hP1 hB hL1, c, q10, q_failM k0, g18, g19, f, k1, q_takes' k1, q_asks' k1]
      exact he 2 (skE V a) (by unfold fixO; rw [eo]; simp only [if_pos c]) _ (fx_lt ((hF1.hs (c := 71) (j := 5) rfl).hs (c := 71) (j := 6) rfl)) ((hs2 (by decide)).trans hs_same) hs_same
    · obtain ⟨s, hs'⟩ : ∃ s : Nat, sAt P v = s := by
        rcases sAt_rng P v with z | z
        · exact absurd z c
        · exact Int.eq_ofNat_of_zero_le z.1
      have sl : s < sTx P := by
        rcases sAt_rng P v with z | z
        · exact absurd z c
        · rw [hs'] at z; exact Int.ofNat_lt.mp z.2
      have s9 : ¬ (s : Int) = -1 := fun z => absurd (z ▸ Int.natCast_nonneg s) (by decide)
      have st : (sAt P v).toNat = s := by rw [hs']; rfl
      have s12 : s < 12 := Nat.lt_of_lt_of_le sl hB.1.2
      have j1 : 0 ≤ (s : Int) ∧ (s : Int) < 24 := ix_n (Nat.lt_trans s12 (by decide))
      simp only [e_MO_fixTold_1, k_MO_fixTold_1, rr, sh, Nat.reduceLT, Nat.reduceMul, Int.reduceToNat, Int.reduceGT, Int.reduceGE, Int.reduceNe, true_and, and_true, true_or, or_true, false_or, or_false, and_self, or_self, if_true, if_false, reduceIte, not_true_eq_false, not_false_eq_true, Int.reduceEq, Int.reduceNe, Int.reduceLT, Int.reduceLE, Int.reduceAdd, Int.reduceSub, Int.reduceMul, Int.reduceNeg, Nat.reduceAdd, Nat.reduceLeDiff, Nat.reduceEqDiff, ne_eq, List.length_cons, List.length_nil, Nat.reduceSub, k0, q_seatAtM hP1 hB hL1, hs', s9, f]
      clear f
      refine x_tkMO (d := d + 1) (i := 7) hT hM1 (wds_lm hW hF1) (by decide) rfl (fun c7 H2 hF2 hM2 => ?_) (fun c7 H2 hF2 hM2 => ?_)
      · have c7' : wdO V e e (OW.getD 7 []) = .error (1, (skE V e : Int)) := by unfold wdO; rw [if_neg (by rw [c7]; decide)]
        have F2 : Fx sLM H H2 := hF1.tr hF2
        have f := mo_f (ptr_lm hP F2)
        simp only [rr, sh, Nat.reduceLT, Nat.reduceMul, Int.reduceToNat, Int.reduceGT, Int.reduceGE, Int.reduceNe, true_and, and_true, true_or, or_true, false_or, or_false, and_self, or_self, if_true, if_false, reduceIte, not_true_eq_false, not_false_eq_true, Int.reduceEq, Int.reduceNe, Int.reduceLT, Int.reduceLE, Int.reduceAdd, Int.reduceSub, Int.reduceMul, Int.reduceNeg, Nat.reduceAdd, Nat.reduceLeDiff, Nat.reduceEqDiff, ne_eq, List.length_cons, List.length_nil, Nat.reduceSub, f]
        clear f
        refine x_wdMO (d := d) (i := 8) hT hM2 (wds_lm hW F2) (by decide) rfl (fun kk pl e2 H' hF q5 q6 => ?_) (fun e2 u eo2 H3 hF3 hM3 => ?_)
        · have k1 : H' 71 5 ≠ 0 := by rw [q5]; exact wdO_er e2
          rw [wdO_sk en] at e2
          simp only [e_MO_fixTold_2, k_MO_fixTold_2, e_MO_fixTold_5, k_MO_fixTold_5, rr, sh, Nat.reduceLT, Nat.reduceMul, Int.reduceToNat, Int.reduceGT, Int.reduceGE, Int.reduceNe, true_and, and_true, true_or, or_true, false_or, or_false, and_self, or_self, if_true, if_false, reduceIte, not_true_eq_false, not_false_eq_true, Int.reduceEq, Int.reduceNe, Int.reduceLT, Int.reduceLE, Int.reduceAdd, Int.reduceSub, Int.reduceMul, Int.reduceNeg, Nat.reduceAdd, Nat.reduceLeDiff, Nat.reduceEqDiff, ne_eq, List.length_cons, List.length_nil, Nat.reduceSub, k1]
          have c8 : ¬ hereB V e e (OW.getD 8 []) = true := fun z => by unfold wdO at e2; rw [if_pos z] at e2; cases e2
          have e3 : (kk, pl) = ((1 : Int), (skE V e : Int)) := by unfold wdO at e2; rw [if_neg c8] at e2; exact (Except.error.inj e2).symm
          exact he kk pl (by unfold fixO; rw [eo]; simp only [if_neg c, if_neg c8, c7', e3]) H' (fx_lt (F2.tr hF)) q5 q6
        · rw [wdO_sk en] at eo2
          have ee := (wdO_ok en (lnO (i := 8) (by decide)).2 eo2).2.2
          subst ee
          have c8 : hereB V e e (OW.getD 8 []) = true := by
            apply Classical.byContradiction
            intro z
            unfold wdO at eo2
            rw [if_neg z] at eo2
            cases eo2
          have k1 := hM3.2.2.2.1
          have F3 : Fx sLM H H3 := F2.tr hF3
          have f := mo_f (ptr_lm hP F3)
          simp only [e_MO_fixTold_2, k_MO_fixTold_2, e_MO_fixTold_3, k_MO_fixTold_3, e_MO_fixTold_4, k_MO_fixTold_4, e_MO_fixTold_5, k_MO_fixTold_5, rr, sh, Nat.reduceLT, Nat.reduceMul, Int.reduceToNat, Int.reduceGT, Int.reduceGE, Int.reduceNe, true_and, and_true, true_or, or_true, false_or, or_false, and_self, or_self, if_true, if_false, reduceIte, not_true_eq_false, not_false_eq_true, Int.reduceEq, Int.reduceNe, Int.reduceLT, Int.reduceLE, Int.reduceAdd, Int.reduceSub, Int.reduceMul, Int.reduceNeg, Nat.reduceAdd, Nat.reduceLeDiff, Nat.reduceEqDiff, ne_eq, List.length_cons, List.length_nil, Nat.reduceSub, f, k1, j1]
          exact ho (enE V e) _ (by unfold fixO; rw [eo]; simp only [if_neg c, if_pos c8, st]; rfl) _ ((fx_lt F3).hs (sTM_fh (fh12 (by decide) s12))) (hM3.put (by decide) (by decide)) (hL.lm F3).put
      · have c8 := two_w c7
        have c7' : wdO V e e (OW.getD 7 []) = .ok (enE V e, 0) := by unfold wdO; rw [if_pos c7]
        have k1 := hM2.2.2.2.1
        have F3 : Fx sLM H H2 := hF1.tr hF2
        have f := mo_f (ptr_lm hP F3)
        simp only [e_MO_fixTold_2, k_MO_fixTold_2, e_MO_fixTold_3, k_MO_fixTold_3, e_MO_fixTold_4, k_MO_fixTold_4, e_MO_fixTold_5, k_MO_fixTold_5, rr, sh, Nat.reduceLT, Nat.reduceMul, Int.reduceToNat, Int.reduceGT, Int.reduceGE, Int.reduceNe, true_and, and_true, true_or, or_true, false_or, or_false, and_self, or_self, if_true, if_false, reduceIte, not_true_eq_false, not_false_eq_true, Int.reduceEq, Int.reduceNe, Int.reduceLT, Int.reduceLE, Int.reduceAdd, Int.reduceSub, Int.reduceMul, Int.reduceNeg, Nat.reduceAdd, Nat.reduceLeDiff, Nat.reduceEqDiff, ne_eq, List.length_cons, List.length_nil, Nat.reduceSub, f, k1, j1]
        exact ho (enE V e) _ (by unfold fixO; rw [eo]; simp only [if_neg c, if_neg c8, c7', st]; rfl) _ ((fx_lt F3).hs (sTM_fh (fh12 (by decide) s12))) (hM2.put (by decide) (by decide)) (hL.lm F3).put
end PJ
