/-! THE READING, both sides: a signed number, a word, a sign -/
def sigO (V : Hp) (a : Nat) (j most : Int) : RdO :=
  if bz V (skE V a) = 45 then
    match numO V (skE V a + 1) j 0 99999 with
    | .error x => .error x
    | .ok (e, v) => if v ≤ most then .ok (e, -v) else .error (2, (skE V a : Int))
  else
    match numO V (skE V a) j 0 99999 with
    | .error x => .error x
    | .ok (e, v) => if v ≤ most then .ok (e, v) else .error (2, (skE V a : Int))
theorem bz_in' {V : Hp} {k : Nat} {c : Int} (h : bz V k = c) (hc : 0 ≤ c) : k < tpN V := by
  apply Classical.byContradiction
  intro z
  rw [bz_past (Nat.not_lt.mp z)] at h
  omega
theorem sigO_ok {V : Hp} {a : Nat} {j most : Int} (hn : a ≤ tpN V) {e : Nat} {v : Int} (h : sigO V a j most = .ok (e, v)) : a < e ∧ e ≤ tpN V ∧ -most ≤ v ∧ v ≤ most := by
  have s := skE_rng hn
  unfold sigO at h
  split at h
  · next c =>
    have lt := bz_in' c (by decide)
    split at h
    · cases h
    · next e2 v2 eo =>
      have r := numO_ok (by omega) eo
      split at h
      · have h := Except.ok.inj h
        obtain ⟨h1, h2⟩ := Prod.mk.inj h
        rw [← h1, ← h2]
        omega
      · cases h
  · next c =>
    split at h
    · cases h
    · next e2 v2 eo =>
      have r := numO_ok s.2 eo
      split at h
      · have h := Except.ok.inj h
        obtain ⟨h1, h2⟩ := Prod.mk.inj h
        rw [← h1, ← h2]
        omega
      · cases h
theorem sigO_er {V : Hp} {a : Nat} {j most : Int} {kk p : Int} (h : sigO V a j most = .error (kk, p)) : kk ≠ 0 := by
  unfold sigO at h
  split at h
  · split at h
    · next eo => cases h; exact numO_er eo
    · split at h
      · cases h
      · cases h; decide
  · split at h
    · next eo => cases h; exact numO_er eo
    · split at h
      · cases h
      · cases h; decide
def wdO (V : Hp) (a : Nat) (j : Int) (w : List Int) : RdO := if hereB V a j w = true then .ok (enE V a, 0) else .error (1, (skE V a : Int))
theorem wdO_ok {V : Hp} {a : Nat} {j : Int} {w : List Int} (hn : a ≤ tpN V) (hw : w ≠ []) {e : Nat} {v : Int} (h : wdO V a j w = .ok (e, v)) : a < e ∧ e ≤ tpN V ∧ e = enE V a := by
  unfold wdO at h
  split at h
  · next c =>
    have h := Except.ok.inj h
    obtain ⟨h1, h2⟩ := Prod.mk.inj h
    have l := here_len c
    have r := enE_rng hn
    have s := skE_rng hn
    have : 0 < w.length := List.length_pos_iff.mpr hw
    rw [← h1]
    exact ⟨by omega, r.2.1, rfl⟩
  · cases h
theorem wdO_er {V : Hp} {a : Nat} {j : Int} {w : List Int} {kk p : Int} (h : wdO V a j w = .error (kk, p)) : kk ≠ 0 := by
  unfold wdO at h
  split at h
  · cases h
  · cases h; decide
section PY
variable {d : Nat} {V H : Hp} {Q : AV → Hp → Prop}
theorem CRd.mv {a : Nat} {j : Int} (h : CRd V H a j) {b : Nat} (hb : b ≤ tpN V) : CRd V (hs H 2 2 b) b j :=
  ⟨h.1.hs (by decide), hs_same, (hs2 (by decide)).trans h.2.2.1, (hs2 (by decide)).trans h.2.2.2.1, (hs2 (by decide)).trans h.2.2.2.2.1, hb⟩
theorem MRd.mv {a : Nat} {j : Int} (h : MRd V H a j) {b : Nat} (hb : b ≤ tpN V) : MRd V (hs H 71 2 b) b j :=
  ⟨h.1.hs (by decide), hs_same, (hs2 (by decide)).trans h.2.2.1, (hs2 (by decide)).trans h.2.2.2.1, (hs2 (by decide)).trans h.2.2.2.2.1, hb⟩
set_option maxRecDepth 20000 in
theorem x_sigC (hT : TapeR V) {a : Nat} {j most : Int} (hm : 0 ≤ most ∧ most ≤ 99999) (hC : CRd V H a j)
    (he : ∀ kk p, sigO V a j most = .error (kk, p) → ∀ H', Fx sLX H H' → H' 2 6 = kk → H' 2 7 = p → Q (vi 0) H')
    (ho : ∀ e v, sigO V a j most = .ok (e, v) → ∀ H', Fx sLX H H' → CRd V H' e e → H' 2 4 = v → Q (vi 1) H') : CC (d + 3) TP_takeSignedNumber [va 2, vi most] H Q := by
  obtain ⟨h1, h2, h3, h6, h7, hn⟩ := id hC
  have s := skE_rng hn
  have n16 := tpN_le hT
  have hC0 := hC.mv s.2
  have b2 : hs H 2 2 (skE V a) 2 2 = skE V a := hs_same
  have f0 : Fx sLX H (hs H 2 2 (skE V a)) := Fx.rf.hs (c := 2) (j := 2) rfl
  by_cases c : bz V (skE V a) = 45
  · have lt := bz_in' c (by decide)
    have kw := w32_s (n := skE V a) (by omega)
    have hC1 := hC0.mv (b := skE V a + 1) lt
    have f1 : Fx sLX H (hs (hs H 2 2 (skE V a)) 2 2 ((skE V a + 1 : Nat) : Int)) := f0.hs (c := 2) (j := 2) rfl
    simp only [en_TP_takeSignedNumber, e_TP_takeSignedNumber_0, k_TP_takeSignedNumber_0, e_TP_takeSignedNumber_1, k_TP_takeSignedNumber_1, e_TP_takeSignedNumber_2, k_TP_takeSignedNumber_2, e_TP_takeSignedNumber_3, k_TP_takeSignedNumber_3, rr, sh, Nat.reduceLT, Nat.reduceMul, Int.reduceToNat, Int.reduceGT, Int.reduceGE, Int.reduceNe, true_and, and_true, true_or, or_true, false_or, or_false, and_self, or_self, if_true, if_false, reduceIte, not_true_eq_false, not_false_eq_true, Int.reduceEq, Int.reduceNe, Int.reduceLT, Int.reduceLE, Int.reduceAdd, Int.reduceSub, Int.reduceMul, Int.reduceNeg, Nat.reduceAdd, Nat.reduceLeDiff, Nat.reduceEqDiff, ne_eq, List.length_cons, List.length_nil, Nat.reduceSub, q_next hT h1 h2 hn, c, b2, kw]
    refine x_numC (d := d) hT hC1 (fun kk p e H' hF q6 q7 => ?_) (fun e v eo H' hF hC' q4 q5 => ?_)
    · simp only [rr, sh, Nat.reduceLT, Nat.reduceMul, Int.reduceToNat, Int.reduceGT, Int.reduceGE, Int.reduceNe, true_and, and_true, true_or, or_true, false_or, or_false, and_self, or_self, if_true, if_false, reduceIte, not_true_eq_false, not_false_eq_true, Int.reduceEq, Int.reduceNe, Int.reduceLT, Int.reduceLE, Int.reduceAdd, Int.reduceSub, Int.reduceMul, Int.reduceNeg, Nat.reduceAdd, Nat.reduceLeDiff, Nat.reduceEqDiff, ne_eq, List.length_cons, List.length_nil, Nat.reduceSub]
      exact he kk p (by unfold sigO; rw [if_pos c, e]; try rfl) H' (f1.tr hF) q6 q7
    · have r := numO_ok lt eo
      have wn : w32 (-v) = -v := w32_id (by omega) (by omega)
      have hG : CRd V (hs (hs H' 2 5 (skE V a)) 2 4 (-v)) e e :=
        ⟨(hC'.1.hs (by decide)).hs (by decide), (hs2 (by decide)).trans ((hs2 (by decide)).trans hC'.2.1), (hs2 (by decide)).trans ((hs2 (by decide)).trans hC'.2.2.1), (hs2 (by decide)).trans ((hs2 (by decide)).trans hC'.2.2.2.1), (hs2 (by decide)).trans ((hs2 (by decide)).trans hC'.2.2.2.2.1), r.2.1⟩
      have f2 : Fx sLX H (hs (hs H' 2 5 (skE V a)) 2 4 (-v)) := ((f1.tr hF).hs (c := 2) (j := 5) rfl).hs (c := 2) (j := 4) rfl
      have g4 : hs (hs H' 2 5 (skE V a)) 2 4 (-v) 2 4 = -v := hs_same
      have g4' : hs H' 2 5 (skE V a) 2 4 = v := (hs2 (by decide)).trans q4
      have ab : (if -v < 0 then - -v else -v) = v := by split <;> omega
      have abw : -2147483647 ≤ -v ∧ -v ≤ 2147483647 := by omega
      by_cases c3 : v ≤ most
      · simp only [e_TP_takeSignedNumber_4, k_TP_takeSignedNumber_4, e_TP_takeSignedNumber_5, k_TP_takeSignedNumber_5, e_TP_takeSignedNumber_6, k_TP_takeSignedNumber_6, e_TP_takeSignedNumber_7, k_TP_takeSignedNumber_7, e_TP_takeSignedNumber_8, k_TP_takeSignedNumber_8, rr, sh, Nat.reduceLT, Nat.reduceMul, Int.reduceToNat, Int.reduceGT, Int.reduceGE, Int.reduceNe, true_and, and_true, true_or, or_true, false_or, or_false, and_self, or_self, if_true, if_false, reduceIte, not_true_eq_false, not_false_eq_true, Int.reduceEq, Int.reduceNe, Int.reduceLT, Int.reduceLE, Int.reduceAdd, Int.reduceSub, Int.reduceMul, Int.reduceNeg, Nat.reduceAdd, Nat.reduceLeDiff, Nat.reduceEqDiff, ne_eq, List.length_cons, List.length_nil, Nat.reduceSub, g4', wn, g4, q_absI abw, ab, c3]
        exact ho e (-v) (by unfold sigO; rw [if_pos c, eo]; exact if_pos c3) _ f2 hG g4
      · simp only [e_TP_takeSignedNumber_4, k_TP_takeSignedNumber_4, e_TP_takeSignedNumber_5, k_TP_takeSignedNumber_5, e_TP_takeSignedNumber_6, k_TP_takeSignedNumber_6, e_TP_takeSignedNumber_7, k_TP_takeSignedNumber_7, e_TP_takeSignedNumber_8, k_TP_takeSignedNumber_8, rr, sh, Nat.reduceLT, Nat.reduceMul, Int.reduceToNat, Int.reduceGT, Int.reduceGE, Int.reduceNe, true_and, and_true, true_or, or_true, false_or, or_false, and_self, or_self, if_true, if_false, reduceIte, not_true_eq_false, not_false_eq_true, Int.reduceEq, Int.reduceNe, Int.reduceLT, Int.reduceLE, Int.reduceAdd, Int.reduceSub, Int.reduceMul, Int.reduceNeg, Nat.reduceAdd, Nat.reduceLeDiff, Nat.reduceEqDiff, ne_eq, List.length_cons, List.length_nil, Nat.reduceSub, g4', wn, g4, q_absI abw, ab, c3, q_failC]
        exact he 2 (skE V a) (by unfold sigO; rw [if_pos c, eo]; exact if_neg c3) _ ((f2.hs (c := 2) (j := 6) rfl).hs (c := 2) (j := 7) rfl) ((hs2 (by decide)).trans hs_same) hs_same
  · simp only [en_TP_takeSignedNumber, e_TP_takeSignedNumber_0, k_TP_takeSignedNumber_0, e_TP_takeSignedNumber_1, k_TP_takeSignedNumber_1, e_TP_takeSignedNumber_2, k_TP_takeSignedNumber_2, e_TP_takeSignedNumber_3, k_TP_takeSignedNumber_3, rr, sh, Nat.reduceLT, Nat.reduceMul, Int.reduceToNat, Int.reduceGT, Int.reduceGE, Int.reduceNe, true_and, and_true, true_or, or_true, false_or, or_false, and_self, or_self, if_true, if_false, reduceIte, not_true_eq_false, not_false_eq_true, Int.reduceEq, Int.reduceNe, Int.reduceLT, Int.reduceLE, Int.reduceAdd, Int.reduceSub, Int.reduceMul, Int.reduceNeg, Nat.reduceAdd, Nat.reduceLeDiff, Nat.reduceEqDiff, ne_eq, List.length_cons, List.length_nil, Nat.reduceSub, q_next hT h1 h2 hn, c, b2]
    refine x_numC (d := d) hT hC0 (fun kk p e H' hF q6 q7 => ?_) (fun e v eo H' hF hC' q4 q5 => ?_)
    · simp only [rr, sh, Nat.reduceLT, Nat.reduceMul, Int.reduceToNat, Int.reduceGT, Int.reduceGE, Int.reduceNe, true_and, and_true, true_or, or_true, false_or, or_false, and_self, or_self, if_true, if_false, reduceIte, not_true_eq_false, not_false_eq_true, Int.reduceEq, Int.reduceNe, Int.reduceLT, Int.reduceLE, Int.reduceAdd, Int.reduceSub, Int.reduceMul, Int.reduceNeg, Nat.reduceAdd, Nat.reduceLeDiff, Nat.reduceEqDiff, ne_eq, List.length_cons, List.length_nil, Nat.reduceSub]
      exact he kk p (by unfold sigO; rw [if_neg c, e]; try rfl) H' (f0.tr hF) q6 q7
    · have r := numO_ok s.2 eo
      have hG : CRd V (hs H' 2 5 (skE V a)) e e :=
        ⟨hC'.1.hs (by decide), (hs2 (by decide)).trans hC'.2.1, (hs2 (by decide)).trans hC'.2.2.1, (hs2 (by decide)).trans hC'.2.2.2.1, (hs2 (by decide)).trans hC'.2.2.2.2.1, r.2.1⟩
      have f2 : Fx sLX H (hs H' 2 5 (skE V a)) := (f0.tr hF).hs (c := 2) (j := 5) rfl
      have g4 : hs H' 2 5 (skE V a) 2 4 = v := (hs2 (by decide)).trans q4
      have ab : (if v < 0 then -v else v) = v := by split <;> omega
      have abw : -2147483647 ≤ v ∧ v ≤ 2147483647 := by omega
      by_cases c3 : v ≤ most
      · simp only [e_TP_takeSignedNumber_4, k_TP_takeSignedNumber_4, e_TP_takeSignedNumber_5, k_TP_takeSignedNumber_5, e_TP_takeSignedNumber_6, k_TP_takeSignedNumber_6, e_TP_takeSignedNumber_7, k_TP_takeSignedNumber_7, e_TP_takeSignedNumber_8, k_TP_takeSignedNumber_8, rr, sh, Nat.reduceLT, Nat.reduceMul, Int.reduceToNat, Int.reduceGT, Int.reduceGE, Int.reduceNe, true_and, and_true, true_or, or_true, false_or, or_false, and_self, or_self, if_true, if_false, reduceIte, not_true_eq_false, not_false_eq_true, Int.reduceEq, Int.reduceNe, Int.reduceLT, Int.reduceLE, Int.reduceAdd, Int.reduceSub, Int.reduceMul, Int.reduceNeg, Nat.reduceAdd, Nat.reduceLeDiff, Nat.reduceEqDiff, ne_eq, List.length_cons, List.length_nil, Nat.reduceSub, g4, q_absI abw, ab, c3]
        exact ho e v (by unfold sigO; rw [if_neg c, eo]; exact if_pos c3) _ f2 hG g4
      · simp only [e_TP_takeSignedNumber_4, k_TP_takeSignedNumber_4, e_TP_takeSignedNumber_5, k_TP_takeSignedNumber_5, e_TP_takeSignedNumber_6, k_TP_takeSignedNumber_6, e_TP_takeSignedNumber_7, k_TP_takeSignedNumber_7, e_TP_takeSignedNumber_8, k_TP_takeSignedNumber_8, rr, sh, Nat.reduceLT, Nat.reduceMul, Int.reduceToNat, Int.reduceGT, Int.reduceGE, Int.reduceNe, true_and, and_true, true_or, or_true, false_or, or_false, and_self, or_self, if_true, if_false, reduceIte, not_true_eq_false, not_false_eq_true, Int.reduceEq, Int.reduceNe, Int.reduceLT, Int.reduceLE, Int.reduceAdd, Int.reduceSub, Int.reduceMul, Int.reduceNeg, Nat.reduceAdd, Nat.reduceLeDiff, Nat.reduceEqDiff, ne_eq, List.length_cons, List.length_nil, Nat.reduceSub, g4, q_absI abw, ab, c3, q_failC]
        exact he 2 (skE V a) (by unfold sigO; rw [if_neg c, eo]; exact if_neg c3) _ ((f2.hs (c := 2) (j := 6) rfl).hs (c := 2) (j := 7) rfl) ((hs2 (by decide)).trans hs_same) hs_same
set_option maxRecDepth 20000 in
theorem q_signed' {most : Int} (hb : H 71 5 ≠ 0) : CC d MO_signed [va 71, vi most] H Q = Q (vi 0) H := by
  refine CC_dt fun Q hQ => ?_
  simp only [en_MO_signed, e_MO_signed_0, k_MO_signed_0, rr, sh, Nat.reduceLT, Nat.reduceMul, Int.reduceToNat, Int.reduceGT, Int.reduceGE, Int.reduceNe, true_and, and_true, true_or, or_true, false_or, or_false, and_self, or_self, if_true, if_false, reduceIte, not_true_eq_false, not_false_eq_true, Int.reduceEq, Int.reduceNe, Int.reduceLT, Int.reduceLE, Int.reduceAdd, Int.reduceSub, Int.reduceMul, Int.reduceNeg, Nat.reduceAdd, Nat.reduceLeDiff, Nat.reduceEqDiff, ne_eq, List.length_cons, List.length_nil, Nat.reduceSub, hb]
  exact hQ
set_option maxRecDepth 20000 in
theorem x_sigM (hT : TapeR V) {a : Nat} {j most : Int} (hm : 0 ≤ most ∧ most ≤ 99999) (hM : MRd V H a j)
    (he : ∀ kk p, sigO V a j most = .error (kk, p) → ∀ H' r, Fx sLM H H' → H' 71 5 = kk → H' 71 6 = p → -99999 ≤ r → r ≤ 99999 → Q (vi r) H')
    (ho : ∀ e v, sigO V a j most = .ok (e, v) → ∀ H', Fx sLM H H' → MRd V H' e e → Q (vi v) H') : CC (d + 2) MO_signed [va 71, vi most] H Q := by
  obtain ⟨h1, h2, h3, h5, h6, hn⟩ := id hM
  have s := skE_rng hn
  have n16 := tpN_le hT
  have hM0 := hM.mv s.2
  have b2 : hs H 71 2 (skE V a) 71 2 = skE V a := hs_same
  have f0 : Fx sLM H (hs H 71 2 (skE V a)) := Fx.rf.hs (c := 71) (j := 2) rfl
  have wm : w32 (-most) = -most := w32_id (by omega) (by omega)
  by_cases c : bz V (skE V a) = 45
  · have lt := bz_in' c (by decide)
    have kw := w32_s (n := skE V a) (by omega)
    have hM1 := hM0.mv (b := skE V a + 1) lt
    have f1 : Fx sLM H (hs (hs H 71 2 (skE V a)) 71 2 ((skE V a + 1 : Nat) : Int)) := f0.hs (c := 71) (j := 2) rfl
    simp only [en_MO_signed, e_MO_signed_0, k_MO_signed_0, e_MO_signed_1, k_MO_signed_1, e_MO_signed_2, k_MO_signed_2, e_MO_signed_3, k_MO_signed_3, e_MO_signed_4, k_MO_signed_4, rr, sh, Nat.reduceLT, Nat.reduceMul, Int.reduceToNat, Int.reduceGT, Int.reduceGE, Int.reduceNe, true_and, and_true, true_or, or_true, false_or, or_false, and_self, or_self, if_true, if_false, reduceIte, not_true_eq_false, not_false_eq_true, Int.reduceEq, Int.reduceNe, Int.reduceLT, Int.reduceLE, Int.reduceAdd, Int.reduceSub, Int.reduceMul, Int.reduceNeg, Nat.reduceAdd, Nat.reduceLeDiff, Nat.reduceEqDiff, ne_eq, List.length_cons, List.length_nil, Nat.reduceSub, h5, q_look hT h1 h2 hn, c, b2, kw]
    refine x_numM (d := d) hT hM1 (fun kk p e H' r hF q6 q7 r1 r2 => ?_) (fun e v eo H' hF hM' q10 => ?_)
    · have wr : w32 (-r) = -r := w32_id (by omega) (by omega)
      have k0 : ¬ H' 71 5 = 0 := by rw [q6]; exact numO_er e
      simp only [e_MO_signed_6, k_MO_signed_6, e_MO_signed_7, k_MO_signed_7, rr, sh, Nat.reduceLT, Nat.reduceMul, Int.reduceToNat, Int.reduceGT, Int.reduceGE, Int.reduceNe, true_and, and_true, true_or, or_true, false_or, or_false, and_self, or_self, if_true, if_false, reduceIte, not_true_eq_false, not_false_eq_true, Int.reduceEq, Int.reduceNe, Int.reduceLT, Int.reduceLE, Int.reduceAdd, Int.reduceSub, Int.reduceMul, Int.reduceNeg, Nat.reduceAdd, Nat.reduceLeDiff, Nat.reduceEqDiff, ne_eq, List.length_cons, List.length_nil, Nat.reduceSub, wr, k0]
      exact he kk p (by unfold sigO; rw [if_pos c, e]; try rfl) H' (-r) (f1.tr hF) q6 q7 (by omega) (by omega)
    · have r := numO_ok lt eo
      have wn : w32 (-v) = -v := w32_id (by omega) (by omega)
      have k0 := hM'.2.2.2.1
      by_cases c3 : v ≤ most
      · have c4 : -most ≤ -v ∧ -v ≤ most := by omega
        simp only [e_MO_signed_6, k_MO_signed_6, e_MO_signed_7, k_MO_signed_7, rr, sh, Nat.reduceLT, Nat.reduceMul, Int.reduceToNat, Int.reduceGT, Int.reduceGE, Int.reduceNe, true_and, and_true, true_or, or_true, false_or, or_false, and_self, or_self, if_true, if_false, reduceIte, not_true_eq_false, not_false_eq_true, Int.reduceEq, Int.reduceNe, Int.reduceLT, Int.reduceLE, Int.reduceAdd, Int.reduceSub, Int.reduceMul, Int.reduceNeg, Nat.reduceAdd, Nat.reduceLeDiff, Nat.reduceEqDiff, ne_eq, List.length_cons, List.length_nil, Nat.reduceSub, wn, wm, k0, q_isIn, c4]
        exact ho e (-v) (by unfold sigO; rw [if_pos c, eo]; exact if_pos c3) _ (f1.tr hF) hM'
      · have c4 : ¬ (-most ≤ -v ∧ -v ≤ most) := by omega
        simp only [e_MO_signed_6, k_MO_signed_6, e_MO_signed_7, k_MO_signed_7, rr, sh, Nat.reduceLT, Nat.reduceMul, Int.reduceToNat, Int.reduceGT, Int.reduceGE, Int.reduceNe, true_and, and_true, true_or, or_true, false_or, or_false, and_self, or_self, if_true, if_false, reduceIte, not_true_eq_false, not_false_eq_true, Int.reduceEq, Int.reduceNe, Int.reduceLT, Int.reduceLE, Int.reduceAdd, Int.reduceSub, Int.reduceMul, Int.reduceNeg, Nat.reduceAdd, Nat.reduceLeDiff, Nat.reduceEqDiff, ne_eq, List.length_cons, List.length_nil, Nat.reduceSub, wn, wm, k0, q_isIn, c4, q_failM k0]
        exact he 2 (skE V a) (by unfold sigO; rw [if_pos c, eo]; exact if_neg c3) _ (-v) (((f1.tr hF).hs (c := 71) (j := 5) rfl).hs (c := 71) (j := 6) rfl) ((hs2 (by decide)).trans hs_same) hs_same (by omega) (by omega)
  · simp only [en_MO_signed, e_MO_signed_0, k_MO_signed_0, e_MO_signed_1, k_MO_signed_1, e_MO_signed_2, k_MO_signed_2, e_MO_signed_3, k_MO_signed_3, e_MO_signed_4, k_MO_signed_4, e_MO_signed_5, k_MO_signed_5, rr, sh, Nat.reduceLT, Nat.reduceMul, Int.reduceToNat, Int.reduceGT, Int.reduceGE, Int.reduceNe, true_and, and_true, true_or, or_true, false_or, or_false, and_self, or_self, if_true, if_false, reduceIte, not_true_eq_false, not_false_eq_true, Int.reduceEq, Int.reduceNe, Int.reduceLT, Int.reduceLE, Int.reduceAdd, Int.reduceSub, Int.reduceMul, Int.reduceNeg, Nat.reduceAdd, Nat.reduceLeDiff, Nat.reduceEqDiff, ne_eq, List.length_cons, List.length_nil, Nat.reduceSub, h5, q_look hT h1 h2 hn, c, b2]
    refine x_numM (d := d) hT hM0 (fun kk p e H' r hF q6 q7 r1 r2 => ?_) (fun e v eo H' hF hM' q10 => ?_)
    · have k0 : ¬ H' 71 5 = 0 := by rw [q6]; exact numO_er e
      simp only [e_MO_signed_6, k_MO_signed_6, e_MO_signed_7, k_MO_signed_7, rr, sh, Nat.reduceLT, Nat.reduceMul, Int.reduceToNat, Int.reduceGT, Int.reduceGE, Int.reduceNe, true_and, and_true, true_or, or_true, false_or, or_false, and_self, or_self, if_true, if_false, reduceIte, not_true_eq_false, not_false_eq_true, Int.reduceEq, Int.reduceNe, Int.reduceLT, Int.reduceLE, Int.reduceAdd, Int.reduceSub, Int.reduceMul, Int.reduceNeg, Nat.reduceAdd, Nat.reduceLeDiff, Nat.reduceEqDiff, ne_eq, List.length_cons, List.length_nil, Nat.reduceSub, k0]
      exact he kk p (by unfold sigO; rw [if_neg c, e]; try rfl) H' r (f0.tr hF) q6 q7 (by omega) (by omega)
    · have r := numO_ok s.2 eo
      have k0 := hM'.2.2.2.1
      by_cases c3 : v ≤ most
      · have c4 : -most ≤ v ∧ v ≤ most := by omega
        simp only [e_MO_signed_6, k_MO_signed_6, e_MO_signed_7, k_MO_signed_7, rr, sh, Nat.reduceLT, Nat.reduceMul, Int.reduceToNat, Int.reduceGT, Int.reduceGE, Int.reduceNe, true_and, and_true, true_or, or_true, false_or, or_false, and_self, or_self, if_true, if_false, reduceIte, not_true_eq_false, not_false_eq_true, Int.reduceEq, Int.reduceNe, Int.reduceLT, Int.reduceLE, Int.reduceAdd, Int.reduceSub, Int.reduceMul, Int.reduceNeg, Nat.reduceAdd, Nat.reduceLeDiff, Nat.reduceEqDiff, ne_eq, List.length_cons, List.length_nil, Nat.reduceSub, wm, k0, q_isIn, c4]
        exact ho e v (by unfold sigO; rw [if_neg c, eo]; exact if_pos c3) _ (f0.tr hF) hM'
      · have c4 : ¬ (-most ≤ v ∧ v ≤ most) := by omega
        simp only [e_MO_signed_6, k_MO_signed_6, e_MO_signed_7, k_MO_signed_7, rr, sh, Nat.reduceLT, Nat.reduceMul, Int.reduceToNat, Int.reduceGT, Int.reduceGE, Int.reduceNe, true_and, and_true, true_or, or_true, false_or, or_false, and_self, or_self, if_true, if_false, reduceIte, not_true_eq_false, not_false_eq_true, Int.reduceEq, Int.reduceNe, Int.reduceLT, Int.reduceLE, Int.reduceAdd, Int.reduceSub, Int.reduceMul, Int.reduceNeg, Nat.reduceAdd, Nat.reduceLeDiff, Nat.reduceEqDiff, ne_eq, List.length_cons, List.length_nil, Nat.reduceSub, wm, k0, q_isIn, c4, q_failM k0]
        exact he 2 (skE V a) (by unfold sigO; rw [if_neg c, eo]; exact if_neg c3) _ v (((f0.tr hF).hs (c := 71) (j := 5) rfl).hs (c := 71) (j := 6) rfl) ((hs2 (by decide)).trans hs_same) hs_same (by omega) (by omega)
/-- a word of the class's list, taken -/
theorem x_wdC (hT : TapeR V) {a : Nat} {j : Int} (hC : CRd V H a j) {z : Int} {w : List Int} {ws : List (List Int)} (hz : StW z w ws) (hd : (w :: ws).Nodup) {i : Nat} (hi : i < (w :: ws).length)
    (he : ∀ kk p, wdO V a j ((w :: ws).getD i []) = .error (kk, p) → ∀ H', Fx sLX H H' → H' 2 6 = kk → H' 2 7 = p → Q (vi 0) H')
    (ho : ∀ e v, wdO V a j ((w :: ws).getD i []) = .ok (e, v) → ∀ H', Fx sLX H H' → CRd V H' e e → Q (vi 1) H') : CC (d + 4) TP_takeWord [va 2, va z, vi i] H Q := by
  obtain ⟨h1, h2, h3, h6, h7, hn⟩ := id hC
  have r := enE_rng hn
  rw [q_takeWord (d := d) hT h1 h2 hn h3 hz]
  have key := wr_at (V := V) (a := a) (j := j) hd hi
  by_cases c : hereB V a j ((w :: ws).getD i []) = true
  · rw [if_pos (key.mpr c), if_pos (key.mpr c)]
    exact ho (enE V a) 0 (if_pos c) _ (((Fx.rf.hs (c := 2) (j := 2) rfl).hs (c := 2) (j := 2) rfl).hs (c := 2) (j := 3) rfl) ⟨((h1.hs (by decide)).hs (by decide)).hs (by decide), (hs2 (by decide)).trans hs_same, hs_same, (hs2 (by decide)).trans ((hs2 (by decide)).trans ((hs2 (by decide)).trans h6)), (hs2 (by decide)).trans ((hs2 (by decide)).trans ((hs2 (by decide)).trans h7)), r.2.1⟩
  · rw [if_neg (fun q => c (key.mp q)), if_neg (fun q => c (key.mp q))]
    exact he 1 (skE V a) (if_neg c) _ (((Fx.rf.hs (c := 2) (j := 2) rfl).hs (c := 2) (j := 6) rfl).hs (c := 2) (j := 7) rfl) ((hs2 (by decide)).trans hs_same) hs_same
/-- a word asked for, the reference -/
theorem x_wdM (hT : TapeR V) {a : Nat} {j : Int} (hM : MRd V H a j) {c : Int} (hc1 : c ≠ 71) {w : List Int} (hc : ChW H c w) (hw : w.length ≤ 100)
    (he : ∀ kk p, wdO V a j w = .error (kk, p) → ∀ H', Fx sLM H H' → H' 71 5 = kk → H' 71 6 = p → Q vu H')
    (ho : ∀ e v, wdO V a j w = .ok (e, v) → ∀ H', Fx sLM H H' → MRd V H' e e → Q vu H') : CC (d + 3) MO_asks [va 71, va c] H Q := by
  obtain ⟨h1, h2, h3, h5, h6, hn⟩ := id hM
  have r := enE_rng hn
  rw [q_asks (d := d) hT h1 h2 hn h3 h5 hc1 hc hw]
  by_cases q : hereB V a j w = true
  · rw [if_pos q]
    exact ho (enE V a) 0 (if_pos q) _ (((Fx.rf.hs (c := 71) (j := 2) rfl).hs (c := 71) (j := 2) rfl).hs (c := 71) (j := 4) rfl) ⟨((h1.hs (by decide)).hs (by decide)).hs (by decide), (hs2 (by decide)).trans hs_same, hs_same, (hs2 (by decide)).trans ((hs2 (by decide)).trans ((hs2 (by decide)).trans h5)), (hs2 (by decide)).trans ((hs2 (by decide)).trans ((hs2 (by decide)).trans h6)), r.2.1⟩
  · rw [if_neg q]
    exact he 1 (skE V a) (if_neg q) _ (((Fx.rf.hs (c := 71) (j := 2) rfl).hs (c := 71) (j := 5) rfl).hs (c := 71) (j := 6) rfl) ((hs2 (by decide)).trans hs_same) hs_same
/-- a word taken if it is here, the reference -/
theorem x_tkM (hT : TapeR V) {a : Nat} {j : Int} (hM : MRd V H a j) {c : Int} (hc1 : c ≠ 71) {w : List Int} (hc : ChW H c w) (hw : w.length ≤ 100)
    (he : hereB V a j w = false → ∀ H', Fx sLM H H' → MRd V H' (skE V a) j → Q (vi 0) H')
    (ho : hereB V a j w = true → ∀ H', Fx sLM H H' → MRd V H' (enE V a) (enE V a) → Q (vi 1) H') : CC (d + 2) MO_takes [va 71, va c] H Q := by
  obtain ⟨h1, h2, h3, h5, h6, hn⟩ := id hM
  have r := enE_rng hn
  have s := skE_rng hn
  rw [q_takes (d := d) hT h1 h2 hn h3 h5 hc1 hc hw]
  by_cases q : hereB V a j w = true
  · rw [if_pos q, q]
    exact ho q _ (((Fx.rf.hs (c := 71) (j := 2) rfl).hs (c := 71) (j := 2) rfl).hs (c := 71) (j := 4) rfl) ⟨((h1.hs (by decide)).hs (by decide)).hs (by decide), (hs2 (by decide)).trans hs_same, hs_same, (hs2 (by decide)).trans ((hs2 (by decide)).trans ((hs2 (by decide)).trans h5)), (hs2 (by decide)).trans ((hs2 (by decide)).trans ((hs2 (by decide)).trans h6)), r.2.1⟩
  · have q' : hereB V a j w = false := by simpa using q
    rw [if_neg q, q']
    exact he q' _ (Fx.rf.hs (c := 71) (j := 2) rfl) (hM.mv s.2)
end PY
