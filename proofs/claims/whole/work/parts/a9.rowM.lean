/-! THE BOAT'S TEXT: a rower, the reference -/
theorem nameO_of {V : Hp} {a : Nat} {j : Int} {P : Hp} {e : Nat} {x : Int} (h : nmO V a j = .ok (e, x)) : nameO V a j P = if dupN P x (rTx P) = true then .error (3, (skE V a : Int)) else .ok (e, x) := by
  unfold nmO at h
  unfold nameO
  split at h
  · next c =>
    split at h
    · next c2 =>
      have h := Except.ok.inj h
      obtain ⟨h1, h2⟩ := Prod.mk.inj h
      rw [if_pos c, if_pos c2, ← h1, ← h2]
    · cases h
  · cases h
theorem nameO_oe {V : Hp} {a : Nat} {j : Int} {P : Hp} {x : Int × Int} (h : nmO V a j = .error x) : nameO V a j P = .error x := by
  unfold nmO at h
  unfold nameO
  split at h
  · next c =>
    split at h
    · cases h
    · next c2 =>
      rw [if_pos c, if_neg c2]
      exact h
  · next c =>
    rw [if_neg c]
    exact h
section PK
variable {d : Nat} {V P H : Hp} {Q : AV → Hp → Prop}
theorem fx_mt {H' : Hp} (hF : Fx sMM H H') : Fx sTM H H' := hF.up sMM_sTM
theorem ptr_mm {H' : Hp} (h : Ptr H) (hF : Fx sMM H H') : Ptr H' := ptr_fx h hF (by decide +kernel)
theorem wds_mm {H' : Hp} (h : Wds H) (hF : Fx sMM H H') : Wds H' := wds_fx h hF (by decide +kernel)
theorem sLM_mm {H' : Hp} (hF : Fx sLM H H') : Fx sMM H H' := hF.up sLM_sMM
/-- behind a fault nothing is read: the rest of a rower -/
theorem rw_bad {b : Int} {k : Nat} {v : Int} (hP : Ptr H) (hb : H 71 5 ≠ 0) (hk : k < 100) (hQ : Q vu H) {i : Nat} (hi : i ≤ k) : R (d + 4) MO_rowerTold (blk MO_rowerTold 2) [va 71, vi b, vi k, vl v, vu, vi i, vu] [] H Q := by
  have f := mo_f hP
  refine up_nat (P := fun i => R (d + 4) MO_rowerTold (blk MO_rowerTold 2) [va 71, vi b, vi k, vl v, vu, vi i, vu] [] H Q) (n := k) ?_ ?_ i hi
  · rw [e_MO_rowerTold_2]
    simp only [k_MO_rowerTold_2, e_MO_rowerTold_4, k_MO_rowerTold_4, rr, sh, Nat.reduceLT, Nat.reduceMul, Int.reduceToNat, Int.reduceGT, Int.reduceGE, Int.reduceNe, true_and, and_true, true_or, or_true, false_or, or_false, and_self, or_self, if_true, if_false, reduceIte, not_true_eq_false, not_false_eq_true, Int.reduceEq, Int.reduceNe, Int.reduceLT, Int.reduceLE, Int.reduceAdd, Int.reduceSub, Int.reduceMul, Int.reduceNeg, Nat.reduceAdd, Nat.reduceLeDiff, Nat.reduceEqDiff, ne_eq, List.length_cons, List.length_nil, Nat.reduceSub, Int.le_refl, f, hb, q_asks' hb, q_number' hb]
    exact hQ
  · intro i hi ih
    have c1 : ¬ (k : Int) ≤ (i : Int) := il_n hi
    have kw := w32_s (n := i) (Nat.lt_trans (Nat.lt_trans hi hk) (by decide))
    rw [e_MO_rowerTold_2]
    simp only [k_MO_rowerTold_2, e_MO_rowerTold_3, k_MO_rowerTold_3, rr, sh, Nat.reduceLT, Nat.reduceMul, Int.reduceToNat, Int.reduceGT, Int.reduceGE, Int.reduceNe, true_and, and_true, true_or, or_true, false_or, or_false, and_self, or_self, if_true, if_false, reduceIte, not_true_eq_false, not_false_eq_true, Int.reduceEq, Int.reduceNe, Int.reduceLT, Int.reduceLE, Int.reduceAdd, Int.reduceSub, Int.reduceMul, Int.reduceNeg, Nat.reduceAdd, Nat.reduceLeDiff, Nat.reduceEqDiff, ne_eq, List.length_cons, List.length_nil, Nat.reduceSub, c1, hb, kw]
    exact ih
set_option maxRecDepth 20000 in
theorem c_rowerToldM (hP : Ptr H) (hW : Wds H) (hT : TapeR V) {a : Nat} {j b : Int} (hM : MRd V H a j) (hB : TxB P) (hL : TmP P H)
    (hfull : rTx P = 12 → ∀ H', Fx sTM H H' → H' 71 5 = 5 → H' 71 6 = b → Q vu H')
    (he : ¬ rTx P = 12 → ∀ kk pl, rowO V a j P = .error (kk, pl) → ∀ H', Fx sTM H H' → H' 71 5 = kk → H' 71 6 = pl → Q vu H')
    (ho : ¬ rTx P = 12 → ∀ e P', rowO V a j P = .ok (e, P') → ∀ H', Fx sTM H H' → MRd V H' e e → TmP P' H' → Q vu H') : CC (d + 4) MO_rowerTold [va 71, vi b] H Q := by
  have hb := hM.2.2.2.1
  have h0 : H 91 1 = rTx P := (hL 91 1 rfl).trans hB.2.1.1
  have f := mo_f hP
  by_cases c : rTx P = 12
  · have c' : ((rTx P : Nat) : Int) = 12 := by rw [c]; rfl
    have qf : ∀ {Q : AV → Hp → Prop}, CC (d + 3) MO_isFull [va 71, vi 1, vi 12, vi b] H Q = Q (vi 1) (hs (hs H 71 5 5) 71 6 b) := fun {Q} => by rw [q_isFull (d := d + 2) hb hP (by decide) h0, if_pos c']
    simp only [en_MO_rowerTold, e_MO_rowerTold_0, k_MO_rowerTold_0, rr, sh, Nat.reduceLT, Nat.reduceMul, Int.reduceToNat, Int.reduceGT, Int.reduceGE, Int.reduceNe, true_and, and_true, true_or, or_true, false_or, or_false, and_self, or_self, if_true, if_false, reduceIte, not_true_eq_false, not_false_eq_true, Int.reduceEq, Int.reduceNe, Int.reduceLT, Int.reduceLE, Int.reduceAdd, Int.reduceSub, Int.reduceMul, Int.reduceNeg, Nat.reduceAdd, Nat.reduceLeDiff, Nat.reduceEqDiff, ne_eq, List.length_cons, List.length_nil, Nat.reduceSub, qf]
    exact hfull c _ ((Fx.rf.hs (c := 71) (j := 5) rfl).hs (c := 71) (j := 6) rfl) ((hs2 (by decide)).trans hs_same) hs_same
  · have he := he c
    have ho := ho c
    have c' : ¬ ((rTx P : Nat) : Int) = 12 := by omega
    have n12 : rTx P < 12 := by have := hB.2.1.2; omega
    have qf : ∀ {Q : AV → Hp → Prop}, CC (d + 3) MO_isFull [va 71, vi 1, vi 12, vi b] H Q = Q (vi 0) H := fun {Q} => by rw [q_isFull (d := d + 2) hb hP (by decide) h0, if_neg c']
    simp only [en_MO_rowerTold, e_MO_rowerTold_0, k_MO_rowerTold_0, e_MO_rowerTold_1, k_MO_rowerTold_1, rr, sh, Nat.reduceLT, Nat.reduceMul, Int.reduceToNat, Int.reduceGT, Int.reduceGE, Int.reduceNe, true_and, and_true, true_or, or_true, false_or, or_false, and_self, or_self, if_true, if_false, reduceIte, not_true_eq_false, not_false_eq_true, Int.reduceEq, Int.reduceNe, Int.reduceLT, Int.reduceLE, Int.reduceAdd, Int.reduceSub, Int.reduceMul, Int.reduceNeg, Nat.reduceAdd, Nat.reduceLeDiff, Nat.reduceEqDiff, ne_eq, List.length_cons, List.length_nil, Nat.reduceSub, qf, f, h0]
    clear f
    refine x_nameM (d := d) hT hP hW hM (fun kk pl e H' hF q5 q6 => ?_) (fun e x eo H1 hF1 hM1 q28 => ?_)
    · have k0 : H' 71 5 ≠ 0 := by rw [q5]; exact nmO_er e
      simp only [rr, sh, Nat.reduceLT, Nat.reduceMul, Int.reduceToNat, Int.reduceGT, Int.reduceGE, Int.reduceNe, true_and, and_true, true_or, or_true, false_or, or_false, and_self, or_self, if_true, if_false, reduceIte, not_true_eq_false, not_false_eq_true, Int.reduceEq, Int.reduceNe, Int.reduceLT, Int.reduceLE, Int.reduceAdd, Int.reduceSub, Int.reduceMul, Int.reduceNeg, Nat.reduceAdd, Nat.reduceLeDiff, Nat.reduceEqDiff, ne_eq, List.length_cons, List.length_nil, Nat.reduceSub]
      exact rw_bad (k := rTx P) (ptr_mm hP hF) k0 (Nat.lt_trans n12 (by decide)) (he kk pl (by unfold rowO; rw [nameO_oe e]; try rfl) H' (fx_mt hF) q5 q6) (i := 0) (Nat.zero_le _)
    · have k0 := hM1.2.2.2.1
      have hP1 := ptr_mm hP hF1
      have hL1 : TmP P H1 := hL.fx hF1 sMM_fh
      have f := mo_f hP1
      simp only [rr, sh, Nat.reduceLT, Nat.reduceMul, Int.reduceToNat, Int.reduceGT, Int.reduceGE, Int.reduceNe, true_and, and_true, true_or, or_true, false_or, or_false, and_self, or_self, if_true, if_false, reduceIte, not_true_eq_false, not_false_eq_true, Int.reduceEq, Int.reduceNe, Int.reduceLT, Int.reduceLE, Int.reduceAdd, Int.reduceSub, Int.reduceMul, Int.reduceNeg, Nat.reduceAdd, Nat.reduceLeDiff, Nat.reduceEqDiff, ne_eq, List.length_cons, List.length_nil, Nat.reduceSub]
      have fin : dupN P x (rTx P) = false → R (d + 4) MO_rowerTold (blk MO_rowerTold 4) [va 71, vi b, vi (rTx P), vl x, vu, vi (rTx P), vu] [] H1 Q := by
        intro hd
        have en : nameO V a j P = .ok (e, x) := by rw [nameO_of eo, if_neg (by rw [hd]; decide)]
        simp only [e_MO_rowerTold_4, k_MO_rowerTold_4, rr, sh, Nat.reduceLT, Nat.reduceMul, Int.reduceToNat, Int.reduceGT, Int.reduceGE, Int.reduceNe, true_and, and_true, true_or, or_true, false_or, or_false, and_self, or_self, if_true, if_false, reduceIte, not_true_eq_false, not_false_eq_true, Int.reduceEq, Int.reduceNe, Int.reduceLT, Int.reduceLE, Int.reduceAdd, Int.reduceSub, Int.reduceMul, Int.reduceNeg, Nat.reduceAdd, Nat.reduceLeDiff, Nat.reduceEqDiff, ne_eq, List.length_cons, List.length_nil, Nat.reduceSub, f]
        clear f
        refine x_wdMO (d := d) (i := 3) hT hM1 (wds_mm hW hF1) (by decide) rfl (fun kk pl e2 H' hF q5 q6 => ?_) (fun e2 u eo2 H2 hF2 hM2 => ?_)
        · have k1 : H' 71 5 ≠ 0 := by rw [q5]; exact wdO_er e2
          have f := mo_f (ptr_lm hP1 hF)
          simp only [rr, sh, Nat.reduceLT, Nat.reduceMul, Int.reduceToNat, Int.reduceGT, Int.reduceGE, Int.reduceNe, true_and, and_true, true_or, or_true, false_or, or_false, and_self, or_self, if_true, if_false, reduceIte, not_true_eq_false, not_false_eq_true, Int.reduceEq, Int.reduceNe, Int.reduceLT, Int.reduceLE, Int.reduceAdd, Int.reduceSub, Int.reduceMul, Int.reduceNeg, Nat.reduceAdd, Nat.reduceLeDiff, Nat.reduceEqDiff, ne_eq, List.length_cons, List.length_nil, Nat.reduceSub, f, k1, q_number' k1, q_asks' k1]
          exact he kk pl (by unfold rowO; rw [en]; simp only [e2]) H' (fx_mt (hF1.tr (sLM_mm hF))) q5 q6
        · refine x_numM (d := d + 2) hT hM2 (fun kk pl e3 H' r hF q5 q6 _ _ => ?_) (fun e3 v eo3 H3 hF3 hM3 q10 => ?_)
          · have k1 : H' 71 5 ≠ 0 := by rw [q5]; exact numO_er e3
            have f := mo_f (ptr_lm hP1 (hF2.tr hF))
            simp only [rr, sh, Nat.reduceLT, Nat.reduceMul, Int.reduceToNat, Int.reduceGT, Int.reduceGE, Int.reduceNe, true_and, and_true, true_or, or_true, false_or, or_false, and_self, or_self, if_true, if_false, reduceIte, not_true_eq_false, not_false_eq_true, Int.reduceEq, Int.reduceNe, Int.reduceLT, Int.reduceLE, Int.reduceAdd, Int.reduceSub, Int.reduceMul, Int.reduceNeg, Nat.reduceAdd, Nat.reduceLeDiff, Nat.reduceEqDiff, ne_eq, List.length_cons, List.length_nil, Nat.reduceSub, f, k1, q_number' k1, q_asks' k1]
            exact he kk pl (by unfold rowO; rw [en]; simp only [eo2, e3]) H' (fx_mt (hF1.tr (sLM_mm (hF2.tr hF)))) q5 q6
          · have F3 : Fx sLM H1 H3 := hF2.tr hF3
            have f := mo_f (ptr_lm hP1 F3)
            simp only [rr, sh, Nat.reduceLT, Nat.reduceMul, Int.reduceToNat, Int.reduceGT, Int.reduceGE, Int.reduceNe, true_and, and_true, true_or, or_true, false_or, or_false, and_self, or_self, if_true, if_false, reduceIte, not_true_eq_false, not_false_eq_true, Int.reduceEq, Int.reduceNe, Int.reduceLT, Int.reduceLE, Int.reduceAdd, Int.reduceSub, Int.reduceMul, Int.reduceNeg, Nat.reduceAdd, Nat.reduceLeDiff, Nat.reduceEqDiff, ne_eq, List.length_cons, List.length_nil, Nat.reduceSub, f]
            clear f
            refine x_wdMO (d := d) (i := 4) hT hM3 (wds_lm (wds_mm hW hF1) F3) (by decide) rfl (fun kk pl e4 H' hF q5 q6 => ?_) (fun e4 u4 eo4 H4 hF4 hM4 => ?_)
            · have k1 : H' 71 5 ≠ 0 := by rw [q5]; exact wdO_er e4
              simp only [rr, sh, Nat.reduceLT, Nat.reduceMul, Int.reduceToNat, Int.reduceGT, Int.reduceGE, Int.reduceNe, true_and, and_true, true_or, or_true, false_or, or_false, and_self, or_self, if_true, if_false, reduceIte, not_true_eq_false, not_false_eq_true, Int.reduceEq, Int.reduceNe, Int.reduceLT, Int.reduceLE, Int.reduceAdd, Int.reduceSub, Int.reduceMul, Int.reduceNeg, Nat.reduceAdd, Nat.reduceLeDiff, Nat.reduceEqDiff, ne_eq, List.length_cons, List.length_nil, Nat.reduceSub, k1, q_number' k1]
              exact he kk pl (by unfold rowO; rw [en]; simp only [eo2, eo3, e4]) H' (fx_mt (hF1.tr (sLM_mm (F3.tr hF)))) q5 q6
            · refine x_numM (d := d + 2) hT hM4 (fun kk pl e5 H' r hF q5 q6 _ _ => ?_) (fun e5 w eo5 H5 hF5 hM5 q10' => ?_)
              · have k1 : H' 71 5 ≠ 0 := by rw [q5]; exact numO_er e5
                simp only [rr, sh, Nat.reduceLT, Nat.reduceMul, Int.reduceToNat, Int.reduceGT, Int.reduceGE, Int.reduceNe, true_and, and_true, true_or, or_true, false_or, or_false, and_self, or_self, if_true, if_false, reduceIte, not_true_eq_false, not_false_eq_true, Int.reduceEq, Int.reduceNe, Int.reduceLT, Int.reduceLE, Int.reduceAdd, Int.reduceSub, Int.reduceMul, Int.reduceNeg, Nat.reduceAdd, Nat.reduceLeDiff, Nat.reduceEqDiff, ne_eq, List.length_cons, List.length_nil, Nat.reduceSub, k1]
                exact he kk pl (by unfold rowO; rw [en]; simp only [eo2, eo3, eo4, e5]) H' (fx_mt (hF1.tr (sLM_mm ((F3.tr hF4).tr hF)))) q5 q6
              · have k1 := hM5.2.2.2.1
                have F5 : Fx sLM H1 H5 := (F3.tr hF4).tr hF5
                have G5 : Fx sTM H H5 := fx_mt (hF1.tr (sLM_mm F5))
                have f := mo_f (ptr_lm hP1 F5)
                have hL5 := hL1.lm F5
                have h5 : H5 91 1 = rTx P := (hL5 91 1 rfl).trans hB.2.1.1
                have j1 : 0 ≤ (rTx P : Int) ∧ (rTx P : Int) < 24 := ix_n (Nat.lt_trans n12 (by decide))
                have kw := w32_s (n := rTx P) (Nat.lt_trans n12 (by decide))
                simp only [e_MO_rowerTold_5, k_MO_rowerTold_5, rr, sh, Nat.reduceLT, Nat.reduceMul, Int.reduceToNat, Int.reduceGT, Int.reduceGE, Int.reduceNe, true_and, and_true, true_or, or_true, false_or, or_false, and_self, or_self, if_true, if_false, reduceIte, not_true_eq_false, not_false_eq_true, Int.reduceEq, Int.reduceNe, Int.reduceLT, Int.reduceLE, Int.reduceAdd, Int.reduceSub, Int.reduceMul, Int.reduceNeg, Nat.reduceAdd, Nat.reduceLeDiff, Nat.reduceEqDiff, ne_eq, List.length_cons, List.length_nil, Nat.reduceSub, f, k1, hs_app, false_and, and_false, h5, j1, kw]
                exact ho e5 _ (by unfold rowO; rw [en]; simp only [eo2, eo3, eo4, eo5]; rfl) _ ((((G5.hs (sTM_fh (fh12 (by decide) n12))).hs (sTM_fh (fh12 (by decide) n12))).hs (sTM_fh (fh12 (by decide) n12))).hs (c := 91) (j := 1) rfl) ((((hM5.put (by decide) (by decide)).put (by decide) (by decide)).put (by decide) (by decide)).put (by decide) (by decide)) hL5.put.put.put.put
      refine up_nat (P := fun i => (∀ r : Nat, r < i → P 95 r ≠ x) → R (d + 4) MO_rowerTold (blk MO_rowerTold 2) [va 71, vi b, vi (rTx P), vl x, vu, vi i, vu] [] H1 Q) (n := rTx P) ?_ ?_ 0 (Nat.zero_le _) (fun r hr => absurd hr (Nat.not_lt_zero r))
      · intro h
        have := fin (dup_no h)
        rw [e_MO_rowerTold_2]
        simp only [k_MO_rowerTold_2, rr, sh, Nat.reduceLT, Nat.reduceMul, Int.reduceToNat, Int.reduceGT, Int.reduceGE, Int.reduceNe, true_and, and_true, true_or, or_true, false_or, or_false, and_self, or_self, if_true, if_false, reduceIte, not_true_eq_false, not_false_eq_true, Int.reduceEq, Int.reduceNe, Int.reduceLT, Int.reduceLE, Int.reduceAdd, Int.reduceSub, Int.reduceMul, Int.reduceNeg, Nat.reduceAdd, Nat.reduceLeDiff, Nat.reduceEqDiff, ne_eq, List.length_cons, List.length_nil, Nat.reduceSub, Int.le_refl]
        exact this
      · intro i hi ih h
        have i12 : i < 12 := Nat.lt_trans hi n12
        have c1 : ¬ (rTx P : Int) ≤ (i : Int) := il_n hi
        have kw := w32_s (n := i) (Nat.lt_trans i12 (by decide))
        have j1 : 0 ≤ (i : Int) ∧ (i : Int) < 24 := ix_n (Nat.lt_trans i12 (by decide))
        have hi1 : H1 95 i = P 95 i := hL1 95 i (fh12 (by decide) i12)
        rw [e_MO_rowerTold_2]
        by_cases c2 : P 95 i = x
        · have hd : dupN P x (rTx P) = true := (dup_iff _).mpr ⟨i, hi, c2⟩
          have en : nameO V a j P = .error (3, (skE V a : Int)) := by rw [nameO_of eo, if_pos hd]
          have k1 : hs (hs H1 71 5 3) 71 6 (skE V a) 71 5 ≠ 0 := by rw [hs2 (by decide), hs_same]; decide
          have F2 : Fx sMM H (hs (hs H1 71 5 3) 71 6 (skE V a)) := (hF1.hs (c := 71) (j := 5) rfl).hs (c := 71) (j := 6) rfl
          simp only [k_MO_rowerTold_2, e_MO_rowerTold_3, k_MO_rowerTold_3, rr, sh, Nat.reduceLT, Nat.reduceMul, Int.reduceToNat, Int.reduceGT, Int.reduceGE, Int.reduceNe, true_and, and_true, true_or, or_true, false_or, or_false, and_self, or_self, if_true, if_false, reduceIte, not_true_eq_false, not_false_eq_true, Int.reduceEq, Int.reduceNe, Int.reduceLT, Int.reduceLE, Int.reduceAdd, Int.reduceSub, Int.reduceMul, Int.reduceNeg, Nat.reduceAdd, Nat.reduceLeDiff, Nat.reduceEqDiff, ne_eq, List.length_cons, List.length_nil, Nat.reduceSub, c1, k0, f, j1, hi1, c2, c3_eq, q28, q_failM k0, kw]
          exact rw_bad (k := rTx P) (ptr_mm hP F2) k1 (Nat.lt_trans n12 (by decide)) (he 3 (skE V a) (by unfold rowO; rw [en]; try rfl) _ (fx_mt F2) ((hs2 (by decide)).trans hs_same) hs_same) hi
        · have ih' := ih (fun r hr => by
            by_cases c : r = i
            · rw [c]; exact c2
            · exact h r (lt_sN hr c))
          simp only [k_MO_rowerTold_2, e_MO_rowerTold_3, k_MO_rowerTold_3, rr, sh, Nat.reduceLT, Nat.reduceMul, Int.reduceToNat, Int.reduceGT, Int.reduceGE, Int.reduceNe, true_and, and_true, true_or, or_true, false_or, or_false, and_self, or_self, if_true, if_false, reduceIte, not_true_eq_false, not_false_eq_true, Int.reduceEq, Int.reduceNe, Int.reduceLT, Int.reduceLE, Int.reduceAdd, Int.reduceSub, Int.reduceMul, Int.reduceNeg, Nat.reduceAdd, Nat.reduceLeDiff, Nat.reduceEqDiff, ne_eq, List.length_cons, List.length_nil, Nat.reduceSub, c1, k0, f, j1, hi1, c2, c3_eq, kw]
          exact ih'
end PK
