/-! THE READING, both sides: where it stands; a number, a word, a sign, told once for both -/
def CRd (V H : Hp) (a : Nat) (j : Int) : Prop := TpV V H ∧ H 2 2 = a ∧ H 2 3 = j ∧ H 2 6 = 0 ∧ H 2 7 = -1 ∧ a ≤ tpN V
def MRd (V H : Hp) (a : Nat) (j : Int) : Prop := TmV V H ∧ H 71 2 = a ∧ H 71 4 = j ∧ H 71 5 = 0 ∧ H 71 6 = -1 ∧ a ≤ tpN V
abbrev RdO : Type := Except (Int × Int) (Nat × Int)
def numO (V : Hp) (a : Nat) (j lo hi : Int) : RdO :=
  if dgH V a j = true then
    if dgB (bz V (dgE V (skE V a))) = true then .error (1, (dgE V (skE V a) : Int))
    else if lo ≤ nuV V (skE V a) (dgE V (skE V a) - skE V a) ∧ nuV V (skE V a) (dgE V (skE V a) - skE V a) ≤ hi then .ok (dgE V (skE V a), nuV V (skE V a) (dgE V (skE V a) - skE V a))
    else .error (2, (skE V a : Int))
  else .error (1, (skE V a : Int))
theorem dgE_le {V : Hp} : ∀ (f a : Nat), a ≤ tpN V → runE dgB V f a ≤ tpN V
  | 0, a, h => h
  | f + 1, a, h => by
    show (if dgB (bz V a) = true then runE dgB V f (a + 1) else a) ≤ tpN V
    split
    · next c => exact dgE_le f (a + 1) (dg_in c)
    · exact h
theorem dgE_all {V : Hp} : ∀ (f a i : Nat), a + i < runE dgB V f a → dgB (bz V (a + i)) = true
  | 0, a, i, h => absurd h (Nat.not_lt.mpr (Nat.le_add_right a i))
  | f + 1, a, i, h => by
    have h : a + i < (if dgB (bz V a) = true then runE dgB V f (a + 1) else a) := h
    split at h
    · next c =>
      cases i with
      | zero => exact c
      | succ i =>
        rw [show a + (i + 1) = a + 1 + i by omega] at h ⊢
        exact dgE_all f (a + 1) i h
    · omega
theorem numO_ok {V : Hp} {a : Nat} {j lo hi : Int} (hn : a ≤ tpN V) {e : Nat} {v : Int} (h : numO V a j lo hi = .ok (e, v)) : a < e ∧ e ≤ tpN V ∧ lo ≤ v ∧ v ≤ hi ∧ 0 ≤ v ∧ v ≤ 99999 := by
  have s := skE_rng hn
  unfold numO at h
  split at h
  · next c =>
    split at h
    · cases h
    · split at h
      · next c3 =>
        have h := Except.ok.inj h
        obtain ⟨h1, h2⟩ := Prod.mk.inj h
        have d1 : dgB (bz V (skE V a)) = true := by
          unfold dgH at c
          rw [Bool.and_eq_true] at c
          exact c.1
        have r := runE_rng (p := dgB) (V := V) 5 (skE V a)
        have r2 : skE V a < dgE V (skE V a) := by
          have := runE_rng (p := dgB) (V := V) 4 (skE V a + 1)
          unfold dgE
          rw [show (5 : Nat) = 4 + 1 from rfl, dgE_go d1]
          omega
        have r3 := dgE_le (V := V) 5 (skE V a) s.2
        have r4 := nuV_le (V := V) (b := skE V a) (k := dgE V (skE V a) - skE V a) (by unfold dgE; omega) (fun i hi => dgE_all 5 (skE V a) i (by unfold dgE at hi; omega))
        rw [← h1, ← h2]
        exact ⟨Nat.lt_of_le_of_lt s.1 r2, r3, c3.1, c3.2, r4.1, r4.2⟩
      · cases h
  · cases h
theorem numO_er {V : Hp} {a : Nat} {j lo hi : Int} {kk p : Int} (h : numO V a j lo hi = .error (kk, p)) : kk ≠ 0 := by
  unfold numO at h
  split at h
  · split at h
    · cases h; decide
    · split at h
      · cases h
      · cases h; decide
  · cases h; decide
section PX
variable {d : Nat} {V H : Hp} {Q : AV → Hp → Prop}
theorem q_absI {x : Int} (h : -2147483647 ≤ x ∧ x ≤ 2147483647) : CC d JK_absI [vi x] H Q = Q (vi (if x < 0 then -x else x)) H := by
  refine CC_dt fun Q hQ => ?_
  by_cases c : x < 0
  · rw [if_pos c] at hQ
    have w : w32 (-x) = -x := w32_id (by omega) (by omega)
    have c' : ¬ 0 ≤ x := by omega
    simp only [en_JK_absI, e_JK_absI_0, k_JK_absI_0, e_JK_absI_1, k_JK_absI_1, e_JK_absI_2, k_JK_absI_2, rr, sh, Nat.reduceLT, Nat.reduceMul, Int.reduceToNat, Int.reduceGT, Int.reduceGE, Int.reduceNe, true_and, and_true, true_or, or_true, false_or, or_false, and_self, or_self, if_true, if_false, reduceIte, not_true_eq_false, not_false_eq_true, Int.reduceEq, Int.reduceNe, Int.reduceLT, Int.reduceLE, Int.reduceAdd, Int.reduceSub, Int.reduceMul, Int.reduceNeg, Nat.reduceAdd, Nat.reduceLeDiff, Nat.reduceEqDiff, ne_eq, List.length_cons, List.length_nil, Nat.reduceSub, c', w]
    exact hQ
  · rw [if_neg c] at hQ
    have c' : 0 ≤ x := by omega
    simp only [en_JK_absI, e_JK_absI_0, k_JK_absI_0, e_JK_absI_1, k_JK_absI_1, e_JK_absI_2, k_JK_absI_2, rr, sh, Nat.reduceLT, Nat.reduceMul, Int.reduceToNat, Int.reduceGT, Int.reduceGE, Int.reduceNe, true_and, and_true, true_or, or_true, false_or, or_false, and_self, or_self, if_true, if_false, reduceIte, not_true_eq_false, not_false_eq_true, Int.reduceEq, Int.reduceNe, Int.reduceLT, Int.reduceLE, Int.reduceAdd, Int.reduceSub, Int.reduceMul, Int.reduceNeg, Nat.reduceAdd, Nat.reduceLeDiff, Nat.reduceEqDiff, ne_eq, List.length_cons, List.length_nil, Nat.reduceSub, c']
    exact hQ
theorem x_numC (hT : TapeR V) {a : Nat} {j lo hi : Int} (hs : CRd V H a j)
    (he : ∀ kk p, numO V a j lo hi = .error (kk, p) → ∀ H', Fx sLX H H' → H' 2 6 = kk → H' 2 7 = p → Q (vi 0) H')
    (ho : ∀ e v, numO V a j lo hi = .ok (e, v) → ∀ H', Fx sLX H H' → CRd V H' e e → H' 2 4 = v → H' 2 5 = skE V a → Q (vi 1) H') : CC (d + 2) TP_takeNumber [va 2, vi lo, vi hi] H Q := by
  obtain ⟨h1, h2, h3, h6, h7, hn⟩ := hs
  refine c_takeNumber hT h1 h2 hn h3 (fun c H' hF q6 q7 => he 1 (skE V a) ?_ H' hF q6 q7) (fun c c2 H' hF q6 q7 => he 1 (dgE V (skE V a)) ?_ H' hF q6 q7) (fun c c2 H' hF q2 q3 q4 q5 => ⟨fun c3 q6 q7 => ?_, fun c3 q6 q7 => he 2 (skE V a) ?_ H' hF q6 q7⟩)
  · unfold numO; rw [if_neg (by rw [c]; decide)]
  · unfold numO; rw [if_pos c, if_pos c2]
  · have e : numO V a j lo hi = .ok (dgE V (skE V a), nuV V (skE V a) (dgE V (skE V a) - skE V a)) := by
      unfold numO; rw [if_pos c, if_neg (by rw [c2]; decide), if_pos c3]
    exact ho _ _ e H' hF ⟨sLX_tp h1 hF, q2, q3, q6.trans h6, q7.trans h7, (numO_ok hn e).2.1⟩ q4 q5
  · unfold numO; rw [if_pos c, if_neg (by rw [c2]; decide), if_neg c3]
theorem sLM_ms {a : Nat} {j : Int} (hs : MRd V H a j) {H' : Hp} (hF : Fx sLM H H') {b : Nat} {i : Int} (q2 : H' 71 2 = b) (q4 : H' 71 4 = i) (q5 : H' 71 5 = 0) (q6 : H' 71 6 = -1) (hb : b ≤ tpN V) : MRd V H' b i := ⟨sLM_tm hs.1 hF, q2, q4, q5, q6, hb⟩
set_option maxRecDepth 20000 in
theorem x_numM (hT : TapeR V) {a : Nat} {j lo hi : Int} (hs' : MRd V H a j)
    (he : ∀ kk p, numO V a j lo hi = .error (kk, p) → ∀ H' r, Fx sLM H H' → H' 71 5 = kk → H' 71 6 = p → -99999 ≤ r → r ≤ 99999 → Q (vi r) H')
    (ho : ∀ e v, numO V a j lo hi = .ok (e, v) → ∀ H', Fx sLM H H' → MRd V H' e e → H' 71 10 = skE V a → Q (vi v) H') : CC (d + 1) MO_number [va 71, vi lo, vi hi] H Q := by
  obtain ⟨h1, h2, h4, h5, h6, hn⟩ := id hs'
  have s := skE_rng hn
  have n16 := tpN_le hT
  refine c_number hT h1 h2 hn h4 h5 (fun c H' hF q6 q7 => he 1 (skE V a) ?_ H' 0 hF q6 q7 (by decide) (by decide)) (fun c c2 H' hF q6 q7 => he 1 (dgE V (skE V a)) ?_ H' 0 hF q6 q7 (by decide) (by decide)) (fun k hk c ek c2 H' hF q2 q5 q6 => ?_)
  · unfold numO; rw [if_neg (by rw [c]; decide)]
  · unfold numO; rw [if_pos c, if_pos c2]
  · have ek' : dgE V (skE V a) - skE V a = k := by omega
    have rg := nuV_le (V := V) (b := skE V a) (k := k) hk (fun i hi => dgE_all 5 (skE V a) i (by unfold dgE at ek; omega))
    have b2 : hs (hs H' 71 4 ((skE V a + k : Nat) : Int)) 71 10 (skE V a) 71 2 = ((skE V a + k : Nat) : Int) := (hs2 (by decide)).trans ((hs2 (by decide)).trans q2)
    have b4 : hs (hs H' 71 4 ((skE V a + k : Nat) : Int)) 71 10 (skE V a) 71 4 = ((skE V a + k : Nat) : Int) := (hs2 (by decide)).trans hs_same
    have b5 : hs (hs H' 71 4 ((skE V a + k : Nat) : Int)) 71 10 (skE V a) 71 5 = 0 := (hs2 (by decide)).trans ((hs2 (by decide)).trans q5)
    have b6 : hs (hs H' 71 4 ((skE V a + k : Nat) : Int)) 71 10 (skE V a) 71 6 = -1 := (hs2 (by decide)).trans ((hs2 (by decide)).trans (q6.trans h6))
    have b10 : hs (hs H' 71 4 ((skE V a + k : Nat) : Int)) 71 10 (skE V a) 71 10 = skE V a := hs_same
    have bF : Fx sLM H (hs (hs H' 71 4 ((skE V a + k : Nat) : Int)) 71 10 (skE V a)) := (hF.hs (c := 71) (j := 4) rfl).hs (c := 71) (j := 10) rfl
    simp only [e_MO_number_6, k_MO_number_6, rr, sh, Nat.reduceLT, Nat.reduceMul, Int.reduceToNat, Int.reduceGT, Int.reduceGE, Int.reduceNe, true_and, and_true, true_or, or_true, false_or, or_false, and_self, or_self, if_true, if_false, reduceIte, not_true_eq_false, not_false_eq_true, Int.reduceEq, Int.reduceNe, Int.reduceLT, Int.reduceLE, Int.reduceAdd, Int.reduceSub, Int.reduceMul, Int.reduceNeg, Nat.reduceAdd, Nat.reduceLeDiff, Nat.reduceEqDiff, ne_eq, List.length_cons, List.length_nil, Nat.reduceSub, q2, q_isIn]
    generalize hs (hs H' 71 4 ((skE V a + k : Nat) : Int)) 71 10 (skE V a) = G at *
    by_cases c3 : lo ≤ nuV V (skE V a) k ∧ nuV V (skE V a) k ≤ hi
    · have e : numO V a j lo hi = .ok (skE V a + k, nuV V (skE V a) k) := by
        unfold numO; rw [if_pos c, if_neg (by rw [c2]; decide), ek', if_pos c3, ek]
      simp only [e_MO_number_7, k_MO_number_7, rr, sh, Nat.reduceLT, Nat.reduceMul, Int.reduceToNat, Int.reduceGT, Int.reduceGE, Int.reduceNe, true_and, and_true, true_or, or_true, false_or, or_false, and_self, or_self, if_true, if_false, reduceIte, not_true_eq_false, not_false_eq_true, Int.reduceEq, Int.reduceNe, Int.reduceLT, Int.reduceLE, Int.reduceAdd, Int.reduceSub, Int.reduceMul, Int.reduceNeg, Nat.reduceAdd, Nat.reduceLeDiff, Nat.reduceEqDiff, ne_eq, List.length_cons, List.length_nil, Nat.reduceSub, c3]
      exact ho _ _ e _ bF (sLM_ms hs' bF b2 b4 b5 b6 (numO_ok hn e).2.1) b10
    · simp only [e_MO_number_7, k_MO_number_7, rr, sh, Nat.reduceLT, Nat.reduceMul, Int.reduceToNat, Int.reduceGT, Int.reduceGE, Int.reduceNe, true_and, and_true, true_or, or_true, false_or, or_false, and_self, or_self, if_true, if_false, reduceIte, not_true_eq_false, not_false_eq_true, Int.reduceEq, Int.reduceNe, Int.reduceLT, Int.reduceLE, Int.reduceAdd, Int.reduceSub, Int.reduceMul, Int.reduceNeg, Nat.reduceAdd, Nat.reduceLeDiff, Nat.reduceEqDiff, ne_eq, List.length_cons, List.length_nil, Nat.reduceSub, c3, q_failM b5]
      refine he 2 (skE V a) ?_ _ _ ((bF.hs (c := 71) (j := 5) rfl).hs (c := 71) (j := 6) rfl) ((hs2 (by decide)).trans hs_same) hs_same (by omega) (by omega)
      unfold numO; rw [if_pos c, if_neg (by rw [c2]; decide), ek', if_neg c3]
end PX
