/-! THE BOAT'S TEXT: all statements; the reference -/
def sTxR (a b : Int) : Bool := sTS a b || (decide (a = 71) && (decide (b = 1) || decide (b = 3)))
theorem sTS_tr (a b : Int) (h : sTS a b = true) : sTxR a b = true := by unfold sTxR; rw [h]; rfl
section PS
variable {d : Nat} {V P H : Hp} {Q : AV → Hp → Prop}
theorem ptr_ts {H' : Hp} (h : Ptr H) (hF : Fx sTS H H') : Ptr H' := ptr_fx h hF (by decide +kernel)
theorem wds_ts {H' : Hp} (h : Wds H) (hF : Fx sTS H H') : Wds H' := wds_fx h hF (by decide +kernel)
theorem ptr_tr {H' : Hp} (h : Ptr H) (hF : Fx sTxR H H') : Ptr H' := ptr_fx h hF (by decide +kernel)
theorem wds_tr {H' : Hp} (h : Wds H) (hF : Fx sTxR H H') : Wds H' := wds_fx h hF (by decide +kernel)
set_option maxRecDepth 20000 in
theorem c_textLoop (hT : TapeR V) : ∀ (f : Nat) (a : Nat) (j : Int) (P H : Hp) (y : AV), f ≤ 70 → Ptr H → Wds H → MRd V H a j → TxB P → TmP P H → H 71 45 = ((70 - f : Nat) : Int) →
    (∀ kk pl, txO V f a j P = .error (kk, pl) → ∀ H', Fx sTS H H' → H' 71 5 = kk → H' 71 6 = pl → R (d + 6) MO_text (blk MO_text 5) [va 71, y] [] H' Q) →
    (∀ n P', txO V f a j P = .ok (n, P') → ∀ H', Fx sTS H H' → H' 71 5 = 0 → H' 71 6 = -1 → H' 71 45 = (n : Int) → TmP P' H' → R (d + 6) MO_text (blk MO_text 5) [va 71, y] [] H' Q) →
    R (d + 6) MO_text (blk MO_text 4) [va 71, y] [] H Q := by
  intro f
  induction f with
  | zero =>
    intro a j P H y _ hP hW hM hB hL h45 he ho
    have hn := hM.2.2.2.2.2
    have f1 : Fx sTS H (hs H 71 2 (skE V a)) := Fx.rf.hs (c := 71) (j := 2) rfl
    have hM1 := hM.mv (skE_rng hn).2
    have k5 := hM.2.2.2.1
    rw [e_MO_text_4]
    by_cases c : bz V (skE V a) = -1
    · have e45 : hs H 71 2 (skE V a) 71 45 = ((70 : Nat) : Int) := (hs2 (by decide)).trans h45
      have := ho 70 P (by unfold txO; rw [if_pos c]) _ f1 hM1.2.2.2.1 hM1.2.2.2.2.1 e45 (hL.fx (S := sMM) (Fx.rf.hs (c := 71) (j := 2) rfl) sMM_fh)
      simp only [k_MO_text_4, rr, sh, Nat.reduceLT, Nat.reduceMul, Int.reduceToNat, Int.reduceGT, Int.reduceGE, Int.reduceNe, true_and, and_true, true_or, or_true, false_or, or_false, and_self, or_self, if_true, if_false, reduceIte, not_true_eq_false, not_false_eq_true, Int.reduceEq, Int.reduceNe, Int.reduceLT, Int.reduceLE, Int.reduceAdd, Int.reduceSub, Int.reduceMul, Int.reduceNeg, Nat.reduceAdd, Nat.reduceLeDiff, Nat.reduceEqDiff, ne_eq, List.length_cons, List.length_nil, Nat.reduceSub, k5, q_look hT hM.1 hM.2.1 hn, c]
      exact this
    · have e45 : hs H 71 2 (skE V a) 71 45 = 70 := (hs2 (by decide)).trans h45
      have b2 : hs H 71 2 (skE V a) 71 2 = skE V a := hs_same
      have b5 : hs H 71 2 (skE V a) 71 5 = 0 := hM1.2.2.2.1
      have b6 : hs (hs (hs H 71 2 (skE V a)) 71 5 5) 71 6 (skE V a) 71 5 = 5 := (hs2 (by decide)).trans hs_same
      have := he 5 (skE V a) (by unfold txO; rw [if_neg c]) _ ((f1.hs (c := 71) (j := 5) rfl).hs (c := 71) (j := 6) rfl) b6 hs_same
      simp only [k_MO_text_4, rr, sh, Nat.reduceLT, Nat.reduceMul, Int.reduceToNat, Int.reduceGT, Int.reduceGE, Int.reduceNe, true_and, and_true, true_or, or_true, false_or, or_false, and_self, or_self, if_true, if_false, reduceIte, not_true_eq_false, not_false_eq_true, Int.reduceEq, Int.reduceNe, Int.reduceLT, Int.reduceLE, Int.reduceAdd, Int.reduceSub, Int.reduceMul, Int.reduceNeg, Nat.reduceAdd, Nat.reduceLeDiff, Nat.reduceEqDiff, ne_eq, List.length_cons, List.length_nil, Nat.reduceSub, k5, q_look hT hM.1 hM.2.1 hn, c]
      simp only [en_MO_statementTold, e_MO_statementTold_0, k_MO_statementTold_0, rr, sh, Nat.reduceLT, Nat.reduceMul, Int.reduceToNat, Int.reduceGT, Int.reduceGE, Int.reduceNe, true_and, and_true, true_or, or_true, false_or, or_false, and_self, or_self, if_true, if_false, reduceIte, not_true_eq_false, not_false_eq_true, Int.reduceEq, Int.reduceNe, Int.reduceLT, Int.reduceLE, Int.reduceAdd, Int.reduceSub, Int.reduceMul, Int.reduceNeg, Nat.reduceAdd, Nat.reduceLeDiff, Nat.reduceEqDiff, ne_eq, List.length_cons, List.length_nil, Nat.reduceSub, e45, b2, q_failM b5]
      rw [e_MO_text_4]
      simp only [k_MO_text_4, rr, sh, Nat.reduceLT, Nat.reduceMul, Int.reduceToNat, Int.reduceGT, Int.reduceGE, Int.reduceNe, true_and, and_true, true_or, or_true, false_or, or_false, and_self, or_self, if_true, if_false, reduceIte, not_true_eq_false, not_false_eq_true, Int.reduceEq, Int.reduceNe, Int.reduceLT, Int.reduceLE, Int.reduceAdd, Int.reduceSub, Int.reduceMul, Int.reduceNeg, Nat.reduceAdd, Nat.reduceLeDiff, Nat.reduceEqDiff, ne_eq, List.length_cons, List.length_nil, Nat.reduceSub, b6]
      exact this
  | succ f ih =>
    intro a j P H y hf hP hW hM hB hL h45 he ho
    have hn := hM.2.2.2.2.2
    have f1 : Fx sTS H (hs H 71 2 (skE V a)) := Fx.rf.hs (c := 71) (j := 2) rfl
    have hM1 := hM.mv (skE_rng hn).2
    have k5 := hM.2.2.2.1
    have hL1 : TmP P (hs H 71 2 (skE V a)) := hL.fx (S := sMM) (Fx.rf.hs (c := 71) (j := 2) rfl) sMM_fh
    have e45 : hs H 71 2 (skE V a) 71 45 = ((70 - (f + 1) : Nat) : Int) := (hs2 (by decide)).trans h45
    rw [e_MO_text_4]
    by_cases c : bz V (skE V a) = -1
    · have := ho (70 - (f + 1)) P (by unfold txO; rw [if_pos c]) _ f1 hM1.2.2.2.1 hM1.2.2.2.2.1 e45 hL1
      simp only [k_MO_text_4, rr, sh, Nat.reduceLT, Nat.reduceMul, Int.reduceToNat, Int.reduceGT, Int.reduceGE, Int.reduceNe, true_and, and_true, true_or, or_true, false_or, or_false, and_self, or_self, if_true, if_false, reduceIte, not_true_eq_false, not_false_eq_true, Int.reduceEq, Int.reduceNe, Int.reduceLT, Int.reduceLE, Int.reduceAdd, Int.reduceSub, Int.reduceMul, Int.reduceNeg, Nat.reduceAdd, Nat.reduceLeDiff, Nat.reduceEqDiff, ne_eq, List.length_cons, List.length_nil, Nat.reduceSub, k5, q_look hT hM.1 hM.2.1 hn, c]
      exact this
    · simp only [k_MO_text_4, rr, sh, Nat.reduceLT, Nat.reduceMul, Int.reduceToNat, Int.reduceGT, Int.reduceGE, Int.reduceNe, true_and, and_true, true_or, or_true, false_or, or_false, and_self, or_self, if_true, if_false, reduceIte, not_true_eq_false, not_false_eq_true, Int.reduceEq, Int.reduceNe, Int.reduceLT, Int.reduceLE, Int.reduceAdd, Int.reduceSub, Int.reduceMul, Int.reduceNeg, Nat.reduceAdd, Nat.reduceLeDiff, Nat.reduceEqDiff, ne_eq, List.length_cons, List.length_nil, Nat.reduceSub, k5, q_look hT hM.1 hM.2.1 hn, c]
      have n70 : 70 - (f + 1) < 70 := by clear ih he ho; omega
      have n71 : 70 - (f + 1) + 1 = 70 - f := by clear ih he ho; omega
      refine c_statementM (d := d) (ptr_ts hP f1) (wds_ts hW f1) hT hM1 (skE_sk hn) hB hL1 n70 e45 (fun kk pl z H' hF q5 q6 => ?_) (fun a' j' P' z H' hF hM' hL' q45 => ?_)
      · have k1 : ¬ H' 71 5 = 0 := by rw [q5]; exact stS_er z
        have := he kk pl (by unfold txO; rw [if_neg c, z]) H' (f1.tr hF) q5 q6
        rw [e_MO_text_4]
        simp only [k_MO_text_4, rr, sh, Nat.reduceLT, Nat.reduceMul, Int.reduceToNat, Int.reduceGT, Int.reduceGE, Int.reduceNe, true_and, and_true, true_or, or_true, false_or, or_false, and_self, or_self, if_true, if_false, reduceIte, not_true_eq_false, not_false_eq_true, Int.reduceEq, Int.reduceNe, Int.reduceLT, Int.reduceLE, Int.reduceAdd, Int.reduceSub, Int.reduceMul, Int.reduceNeg, Nat.reduceAdd, Nat.reduceLeDiff, Nat.reduceEqDiff, ne_eq, List.length_cons, List.length_nil, Nat.reduceSub, k1]
        exact this
      · rw [n71] at q45
        have G := f1.tr hF
        exact ih a' j' P' H' y (Nat.le_of_succ_le hf) (ptr_ts hP G) (wds_ts hW G) hM' (stS_B hB z) hL' q45 (fun kk pl w H2 hF2 => he kk pl (by unfold txO; rw [if_neg c, z]; exact w) H2 (G.tr hF2)) (fun n P2 w H2 hF2 => ho n P2 (by unfold txO; rw [if_neg c, z]; exact w) H2 (G.tr hF2))
theorem tx_s1 {X : Hp} {k k2 : Int} (p29 : X 71 29 = 91) (hk : 0 ≤ k ∧ k < 4) (w : w32 (k + 1) = k2) (h : R (d + 6) MO_text (blk MO_text 1) [va 71, vi k2] [] (hs X 91 k 0) Q) : R (d + 6) MO_text (blk MO_text 1) [va 71, vi k] [] X Q := by
  have c1 : ¬ (4 : Int) ≤ k := by omega
  have j1 : 0 ≤ k ∧ k < 8 := by omega
  rw [e_MO_text_1]
  simp only [k_MO_text_1, rr, sh, Nat.reduceLT, Nat.reduceMul, Int.reduceToNat, Int.reduceGT, Int.reduceGE, Int.reduceNe, true_and, and_true, true_or, or_true, false_or, or_false, and_self, or_self, if_true, if_false, reduceIte, not_true_eq_false, not_false_eq_true, Int.reduceEq, Int.reduceNe, Int.reduceLT, Int.reduceLE, Int.reduceAdd, Int.reduceSub, Int.reduceMul, Int.reduceNeg, Nat.reduceAdd, Nat.reduceLeDiff, Nat.reduceEqDiff, ne_eq, List.length_cons, List.length_nil, Nat.reduceSub, p29, c1, j1, w]
  exact h
theorem tx_s3 {X : Hp} {k k2 : Int} (p38 : X 71 38 = 100) (hk : 0 ≤ k ∧ k < 4) (w : w32 (k + 1) = k2) (h : R (d + 6) MO_text (blk MO_text 3) [va 71, vi k2] [] (hs X 100 k 0) Q) : R (d + 6) MO_text (blk MO_text 3) [va 71, vi k] [] X Q := by
  have c1 : ¬ (4 : Int) ≤ k := by omega
  have j1 : 0 ≤ k ∧ k < 8 := by omega
  rw [e_MO_text_3]
  simp only [k_MO_text_3, rr, sh, Nat.reduceLT, Nat.reduceMul, Int.reduceToNat, Int.reduceGT, Int.reduceGE, Int.reduceNe, true_and, and_true, true_or, or_true, false_or, or_false, and_self, or_self, if_true, if_false, reduceIte, not_true_eq_false, not_false_eq_true, Int.reduceEq, Int.reduceNe, Int.reduceLT, Int.reduceLE, Int.reduceAdd, Int.reduceSub, Int.reduceMul, Int.reduceNeg, Nat.reduceAdd, Nat.reduceLeDiff, Nat.reduceEqDiff, ne_eq, List.length_cons, List.length_nil, Nat.reduceSub, p38, c1, j1, w]
  exact h
/-- the heap ahead of the reference's reading -/
def tm0 (H : Hp) (e : Int) : Hp := hs (hs (hs (hs (hs (hs (hs (hs (hs (hs (hs (hs (hs (hs (hs (hs (hs H 71 3 e) 71 1 0) 71 2 0) 71 4 (-1)) 71 5 0) 71 6 (-1)) 71 45 0) 98 0 (-1)) 99 0 0) 91 0 0) 91 1 0) 91 2 0) 91 3 0) 100 0 0) 100 1 0) 100 2 0) 100 3 0
theorem tm0_fx {e : Int} : Fx sTxR H (tm0 H e) := ((((((((((((((((Fx.rf.hs (c := 71) (j := 3) rfl).hs (c := 71) (j := 1) rfl).hs (c := 71) (j := 2) rfl).hs (c := 71) (j := 4) rfl).hs (c := 71) (j := 5) rfl).hs (c := 71) (j := 6) rfl).hs (c := 71) (j := 45) rfl).hs (c := 98) (j := 0) rfl).hs (c := 99) (j := 0) rfl).hs (c := 91) (j := 0) rfl).hs (c := 91) (j := 1) rfl).hs (c := 91) (j := 2) rfl).hs (c := 91) (j := 3) rfl).hs (c := 100) (j := 0) rfl).hs (c := 100) (j := 1) rfl).hs (c := 100) (j := 2) rfl).hs (c := 100) (j := 3) rfl
theorem tm0_P {e : Int} (h : ∀ a b, fh a b = true → H a b = V a b) : TmP (P0T V) (tm0 H e) := by
  intro a b q
  have q' := of_decide_eq_true q
  have a71 := fh_71 q
  unfold tm0
  rw [hs_app, hs_app, hs_app, hs_app, hs_app, hs_app, hs_app, hs_app, hs_app, hs_app, hs_ne' a71, hs_ne' a71, hs_ne' a71, hs_ne' a71, hs_ne' a71, hs_ne' a71, hs_ne' a71, h a b q]
  unfold P0T
  by_cases c1 : a = 91
  · have cb : b = 0 ∨ b = 1 ∨ b = 2 ∨ b = 3 := by omega
    subst c1
    rcases cb with rfl | rfl | rfl | rfl <;> rfl
  · by_cases c2 : a = 98
    · have cb : b = 0 := by omega
      subst c2; subst cb; rfl
    · by_cases c3 : a = 99
      · have cb : b = 0 := by omega
        subst c3; subst cb; rfl
      · by_cases c4 : a = 100
        · have cb : b = 0 ∨ b = 1 ∨ b = 2 ∨ b = 3 := by omega
          subst c4
          rcases cb with rfl | rfl | rfl | rfl <;> rfl
        · rw [if_neg (fun z => c4 z.1), if_neg (fun z => c4 z.1), if_neg (fun z => c4 z.1), if_neg (fun z => c4 z.1), if_neg (fun z => c1 z.1), if_neg (fun z => c1 z.1), if_neg (fun z => c1 z.1), if_neg (fun z => c1 z.1), if_neg (fun z => c3 z.1), if_neg (fun z => c2 z.1), if_neg c1, if_neg c2, if_neg c3, if_neg c4]
set_option maxRecDepth 20000 in
theorem c_textM (hT : TapeR V) (hP : Ptr H) (hW : Wds H) (e72 : H 72 = V 72) (e1 : H 71 1 = tpN V) (hB : BoatM V) (e : ∀ a b, fh a b = true → H a b = V a b)
    (he : ∀ kk pl, txO V 70 0 (-1) (P0T V) = .error (kk, pl) → ∀ H', Fx sTxR H H' → H' 71 5 = kk → H' 71 6 = pl → H' 71 1 = 0 → R (d + 6) MO_text (blk MO_text 5) [va 71, vi 4] [] H' Q)
    (ho : ∀ n P', txO V 70 0 (-1) (P0T V) = .ok (n, P') → ∀ H', Fx sTxR H H' → H' 71 5 = 0 → H' 71 6 = -1 → H' 71 1 = 0 → H' 71 45 = (n : Int) → TmP P' H' → R (d + 6) MO_text (blk MO_text 5) [va 71, vi 4] [] H' Q) : CC (d + 6) MO_text [va 71] H Q := by
  have f := mo_f hP
  have g29 : H 71 29 = 91 := hP (71, 29, 91) (by decide +kernel)
  have g38 : H 71 38 = 100 := hP (71, 38, 100) (by decide +kernel)
  have g0 : H 71 0 = 72 := hP (71, 0, 72) (by decide +kernel)
  have F0 : Fx sTxR H (tm0 H (tpN V)) := tm0_fx
  have M0 : MRd V (tm0 H (tpN V)) 0 (-1) := by
    refine ⟨⟨?_, ?_, ?_⟩, ?_, ?_, ?_, ?_, Nat.zero_le _⟩
    · unfold tm0; simp only [hs_app, Int.reduceEq, Int.reduceAdd, and_false, false_and, and_true, true_and, if_false, if_true, reduceIte, eq_self, and_self]; exact g0
    · unfold tm0; simp only [hs_app, Int.reduceEq, Int.reduceAdd, and_false, false_and, and_true, true_and, if_false, if_true, reduceIte, eq_self, and_self]
    · unfold tm0
      rw [hs_ne (by decide), hs_ne (by decide), hs_ne (by decide), hs_ne (by decide), hs_ne (by decide), hs_ne (by decide), hs_ne (by decide), hs_ne (by decide), hs_ne (by decide), hs_ne (by decide), hs_ne (by decide), hs_ne (by decide), hs_ne (by decide), hs_ne (by decide), hs_ne (by decide), hs_ne (by decide), hs_ne (by decide)]
      exact e72
    · unfold tm0; simp only [hs_app, Int.reduceEq, Int.reduceAdd, and_false, false_and, and_true, true_and, if_false, if_true, reduceIte, eq_self, and_self]; rfl
    · unfold tm0; simp only [hs_app, Int.reduceEq, Int.reduceAdd, and_false, false_and, and_true, true_and, if_false, if_true, reduceIte, eq_self, and_self]
    · unfold tm0; simp only [hs_app, Int.reduceEq, Int.reduceAdd, and_false, false_and, and_true, true_and, if_false, if_true, reduceIte, eq_self, and_self]
    · unfold tm0; simp only [hs_app, Int.reduceEq, Int.reduceAdd, and_false, false_and, and_true, true_and, if_false, if_true, reduceIte, eq_self, and_self]
  have h45 : tm0 H (tpN V) 71 45 = ((70 - 70 : Nat) : Int) := by unfold tm0; simp only [hs_app, Int.reduceEq, Int.reduceAdd, and_false, false_and, and_true, true_and, if_false, if_true, reduceIte, eq_self, and_self]; rfl
  have h1 : tm0 H (tpN V) 71 1 = 0 := by unfold tm0; simp only [hs_app, Int.reduceEq, Int.reduceAdd, and_false, false_and, and_true, true_and, if_false, if_true, reduceIte, eq_self, and_self]
  have r : R (d + 6) MO_text (blk MO_text 4) [va 71, vi 4] [] (tm0 H (tpN V)) Q := c_textLoop (d := d) hT 70 0 (-1) (P0T V) _ (vi 4) (Nat.le_refl _) (ptr_tr hP F0) (wds_tr hW F0) M0 (P0T_B hB) (tm0_P e) h45 (fun kk pl z H' hF q5 q6 => he kk pl z H' (F0.tr (hF.up sTS_tr)) q5 q6 ((hF 71 1 rfl).trans h1)) (fun n P' z H' hF q5 q6 q45 hL => ho n P' z H' (F0.tr (hF.up sTS_tr)) q5 q6 ((hF 71 1 rfl).trans h1) q45 hL)
  clear he ho M0 h45 h1 F0
  simp only [en_MO_text, e_MO_text_0, k_MO_text_0, rr, sh, Nat.reduceLT, Nat.reduceMul, Int.reduceToNat, Int.reduceGT, Int.reduceGE, Int.reduceNe, true_and, and_true, true_or, or_true, false_or, or_false, and_self, or_self, if_true, if_false, reduceIte, not_true_eq_false, not_false_eq_true, Int.reduceEq, Int.reduceNe, Int.reduceLT, Int.reduceLE, Int.reduceAdd, Int.reduceSub, Int.reduceMul, Int.reduceNeg, Nat.reduceAdd, Nat.reduceLeDiff, Nat.reduceEqDiff, ne_eq, List.length_cons, List.length_nil, Nat.reduceSub, f, hs_app, false_and, and_false, e1]
  refine tx_s1 (k2 := 1) ?_ (by decide) rfl ?_
  · simp only [hs_app, Int.reduceEq, Int.reduceAdd, and_false, false_and, and_true, true_and, if_false, if_true, reduceIte, eq_self, and_self]; exact g29
  refine tx_s1 (k2 := 2) ?_ (by decide) rfl ?_
  · simp only [hs_app, Int.reduceEq, Int.reduceAdd, and_false, false_and, and_true, true_and, if_false, if_true, reduceIte, eq_self, and_self]; exact g29
  refine tx_s1 (k2 := 3) ?_ (by decide) rfl ?_
  · simp only [hs_app, Int.reduceEq, Int.reduceAdd, and_false, false_and, and_true, true_and, if_false, if_true, reduceIte, eq_self, and_self]; exact g29
  refine tx_s1 (k2 := 4) ?_ (by decide) rfl ?_
  · simp only [hs_app, Int.reduceEq, Int.reduceAdd, and_false, false_and, and_true, true_and, if_false, if_true, reduceIte, eq_self, and_self]; exact g29
  rw [e_MO_text_1]
  simp only [k_MO_text_1, e_MO_text_2, k_MO_text_2, rr, sh, Nat.reduceLT, Nat.reduceMul, Int.reduceToNat, Int.reduceGT, Int.reduceGE, Int.reduceNe, true_and, and_true, true_or, or_true, false_or, or_false, and_self, or_self, if_true, if_false, reduceIte, not_true_eq_false, not_false_eq_true, Int.reduceEq, Int.reduceNe, Int.reduceLT, Int.reduceLE, Int.reduceAdd, Int.reduceSub, Int.reduceMul, Int.reduceNeg, Nat.reduceAdd, Nat.reduceLeDiff, Nat.reduceEqDiff, ne_eq, List.length_cons, List.length_nil, Nat.reduceSub]
  refine tx_s3 (k2 := 1) ?_ (by decide) rfl ?_
  · simp only [hs_app, Int.reduceEq, Int.reduceAdd, and_false, false_and, and_true, true_and, if_false, if_true, reduceIte, eq_self, and_self]; exact g38
  refine tx_s3 (k2 := 2) ?_ (by decide) rfl ?_
  · simp only [hs_app, Int.reduceEq, Int.reduceAdd, and_false, false_and, and_true, true_and, if_false, if_true, reduceIte, eq_self, and_self]; exact g38
  refine tx_s3 (k2 := 3) ?_ (by decide) rfl ?_
  · simp only [hs_app, Int.reduceEq, Int.reduceAdd, and_false, false_and, and_true, true_and, if_false, if_true, reduceIte, eq_self, and_self]; exact g38
  refine tx_s3 (k2 := 4) ?_ (by decide) rfl ?_
  · simp only [hs_app, Int.reduceEq, Int.reduceAdd, and_false, false_and, and_true, true_and, if_false, if_true, reduceIte, eq_self, and_self]; exact g38
  rw [e_MO_text_3]
  simp only [k_MO_text_3, rr, sh, Nat.reduceLT, Nat.reduceMul, Int.reduceToNat, Int.reduceGT, Int.reduceGE, Int.reduceNe, true_and, and_true, true_or, or_true, false_or, or_false, and_self, or_self, if_true, if_false, reduceIte, not_true_eq_false, not_false_eq_true, Int.reduceEq, Int.reduceNe, Int.reduceLT, Int.reduceLE, Int.reduceAdd, Int.reduceSub, Int.reduceMul, Int.reduceNeg, Nat.reduceAdd, Nat.reduceLeDiff, Nat.reduceEqDiff, ne_eq, List.length_cons, List.length_nil, Nat.reduceSub]
  exact r
end PS
