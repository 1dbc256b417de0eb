/-! THE READING, the class: a number taken -/
theorem five_s {k f : Nat} (hk : k < 5) (hf : 5 - k = f + 1) : 5 - (k + 1) = f := by omega
section LS
variable {d : Nat} {V H : Hp} {Q : AV → Hp → Prop}
theorem sLX_tp {H H' : Hp} (h : TpV V H) (hF : Fx sLX H H') : TpV V H' := ⟨(hF 2 0 rfl).trans h.1, (hF 2 1 rfl).trans h.2.1, (hF.cell 3 (fun _ => rfl)).trans h.2.2⟩
set_option maxRecDepth 20000 in
theorem c_takeNumber (hT : TapeR V) (h : TpV V H) {a : Nat} (ha : H 2 2 = a) (hn : a ≤ tpN V) {j : Int} (hj : H 2 3 = j) {lo hi : Int}
    (hno : dgH V a j = false → ∀ H', Fx sLX H H' → H' 2 6 = 1 → H' 2 7 = skE V a → Q (vi 0) H')
    (hlong : dgH V a j = true → dgB (bz V (dgE V (skE V a))) = true → ∀ H', Fx sLX H H' → H' 2 6 = 1 → H' 2 7 = dgE V (skE V a) → Q (vi 0) H')
    (hin : dgH V a j = true → dgB (bz V (dgE V (skE V a))) = false → ∀ H', Fx sLX H H' → H' 2 2 = dgE V (skE V a) → H' 2 3 = dgE V (skE V a) → H' 2 4 = nuV V (skE V a) (dgE V (skE V a) - skE V a) → H' 2 5 = skE V a → (lo ≤ nuV V (skE V a) (dgE V (skE V a) - skE V a) ∧ nuV V (skE V a) (dgE V (skE V a) - skE V a) ≤ hi → H' 2 6 = H 2 6 → H' 2 7 = H 2 7 → Q (vi 1) H') ∧ (¬ (lo ≤ nuV V (skE V a) (dgE V (skE V a) - skE V a) ∧ nuV V (skE V a) (dgE V (skE V a) - skE V a) ≤ hi) → H' 2 6 = 2 → H' 2 7 = skE V a → Q (vi 0) H')) : CC (d + 2) TP_takeNumber [va 2, vi lo, vi hi] H Q := by
  have n16 := tpN_le hT
  have s := skE_rng hn
  have hv : TpV V (hs H 2 2 (skE V a)) := h.hs (by decide)
  have b3 : hs H 2 2 (skE V a) 2 3 = j := (hs2 (by decide)).trans hj
  have b2 : hs H 2 2 (skE V a) 2 2 = skE V a := hs_same
  have f0 : Fx sLX H (hs H 2 2 (skE V a)) := Fx.rf.hs (c := 2) (j := 2) rfl
  have hfail : dgH V a j = false → R (d + 2) TP_takeNumber (blk TP_takeNumber 2) [va 2, vi lo, vi hi, vu, vu] [vi 0] (hs H 2 2 (skE V a)) Q := by
    intro hd
    have fh : ∀ {Q : AV → Hp → Prop}, CC (d + 1) TP_failHere [va 2] (hs (hs (hs H 2 2 (skE V a)) 2 5 (skE V a)) 2 4 0) Q = Q (vi 0) (hs (hs (hs (hs (hs H 2 2 (skE V a)) 2 5 (skE V a)) 2 4 0) 2 6 1) 2 7 (skE V a)) := fun {Q} => q_failHere (d := d) ((hs2 (by decide)).trans ((hs2 (by decide)).trans b2))
    simp only [e_TP_takeNumber_2, k_TP_takeNumber_2, rr, sh, Nat.reduceLT, Nat.reduceMul, Int.reduceToNat, Int.reduceGT, Int.reduceGE, Int.reduceNe, true_and, and_true, true_or, or_true, false_or, or_false, and_self, or_self, if_true, if_false, reduceIte, not_true_eq_false, not_false_eq_true, Int.reduceEq, Int.reduceNe, Int.reduceLT, Int.reduceLE, Int.reduceAdd, Int.reduceSub, Int.reduceMul, Int.reduceNeg, Nat.reduceAdd, Nat.reduceLeDiff, Nat.reduceEqDiff, ne_eq, List.length_cons, List.length_nil, Nat.reduceSub, b2, fh]
    refine hno hd _ ((((f0.hs (c := 2) (j := 5) rfl).hs (c := 2) (j := 4) rfl).hs (c := 2) (j := 6) rfl).hs (c := 2) (j := 7) rfl) ((hs2 (by decide)).trans hs_same) hs_same
  by_cases l1 : dgB (bz V (skE V a)) = true
  · by_cases l2 : (skE V a : Int) = j
    · have := hfail (by unfold dgH; rw [l1, decide_eq_false (fun z => z l2)]; rfl)
      subst l2
      simp only [en_TP_takeNumber, e_TP_takeNumber_0, k_TP_takeNumber_0, e_TP_takeNumber_1, k_TP_takeNumber_1, rr, sh, Nat.reduceLT, Nat.reduceMul, Int.reduceToNat, Int.reduceGT, Int.reduceGE, Int.reduceNe, true_and, and_true, true_or, or_true, false_or, or_false, and_self, or_self, if_true, if_false, reduceIte, not_true_eq_false, not_false_eq_true, Int.reduceEq, Int.reduceNe, Int.reduceLT, Int.reduceLE, Int.reduceAdd, Int.reduceSub, Int.reduceMul, Int.reduceNeg, Nat.reduceAdd, Nat.reduceLeDiff, Nat.reduceEqDiff, ne_eq, List.length_cons, List.length_nil, Nat.reduceSub, q_next hT h ha hn, q_isDigitC, l1, show bI true = 1 from rfl, b2, b3]
      exact this
    · have hd : dgH V a j = true := by unfold dgH; rw [l1, decide_eq_true l2]; rfl
      have hlong := hlong hd
      have hin := hin hd
      simp only [en_TP_takeNumber, e_TP_takeNumber_0, k_TP_takeNumber_0, e_TP_takeNumber_2, k_TP_takeNumber_2, e_TP_takeNumber_3, k_TP_takeNumber_3, rr, sh, Nat.reduceLT, Nat.reduceMul, Int.reduceToNat, Int.reduceGT, Int.reduceGE, Int.reduceNe, true_and, and_true, true_or, or_true, false_or, or_false, and_self, or_self, if_true, if_false, reduceIte, not_true_eq_false, not_false_eq_true, Int.reduceEq, Int.reduceNe, Int.reduceLT, Int.reduceLE, Int.reduceAdd, Int.reduceSub, Int.reduceMul, Int.reduceNeg, Nat.reduceAdd, Nat.reduceLeDiff, Nat.reduceEqDiff, ne_eq, List.length_cons, List.length_nil, Nat.reduceSub, q_next hT h ha hn, q_isDigitC, l1, show bI true = 1 from rfl, b2, b3, l2]
      have g4 : hs (hs (hs H 2 2 (skE V a)) 2 5 (skE V a)) 2 4 0 2 2 = skE V a := (hs2 (by decide)).trans ((hs2 (by decide)).trans b2)
      have g5 : hs (hs (hs H 2 2 (skE V a)) 2 5 (skE V a)) 2 4 0 2 5 = skE V a := (hs2 (by decide)).trans hs_same
      have g6 : hs (hs (hs H 2 2 (skE V a)) 2 5 (skE V a)) 2 4 0 2 6 = H 2 6 := (hs2 (by decide)).trans ((hs2 (by decide)).trans (hs2 (by decide)))
      have g7 : hs (hs (hs H 2 2 (skE V a)) 2 5 (skE V a)) 2 4 0 2 7 = H 2 7 := (hs2 (by decide)).trans ((hs2 (by decide)).trans (hs2 (by decide)))
      have g3 : hs (hs (hs H 2 2 (skE V a)) 2 5 (skE V a)) 2 4 0 2 4 = 0 := hs_same
      have gF : Fx sLX H (hs (hs (hs H 2 2 (skE V a)) 2 5 (skE V a)) 2 4 0) := (f0.hs (c := 2) (j := 5) rfl).hs (c := 2) (j := 4) rfl
      generalize hs (hs (hs H 2 2 (skE V a)) 2 5 (skE V a)) 2 4 0 = G at *
      clear hfail b2 b3 f0 hv
      generalize skE V a = b at *
      have fin : ∀ (k : Nat) (H' : Hp), k ≤ 5 → b + k = dgE V b → Fx sLX H H' → H' 2 2 = ((b + k : Nat) : Int) → H' 2 4 = nuV V b k → H' 2 5 = b → H' 2 6 = H 2 6 → H' 2 7 = H 2 7 → R (d + 2) TP_takeNumber (blk TP_takeNumber 5) [va 2, vi lo, vi hi, vi 1, vi k] [] H' Q := by
        intro k H' hk he hF a2 a4 a5 a6 a7
        have hv := sLX_tp h hF
        rw [← he] at hlong hin
        rw [Nat.add_sub_cancel_left] at hin
        by_cases c : dgB (bz V (b + k)) = true
        · have fh : ∀ {Q : AV → Hp → Prop}, CC (d + 1) TP_failHere [va 2] H' Q = Q (vi 0) (hs (hs H' 2 6 1) 2 7 ((b + k : Nat) : Int)) := fun {Q} => q_failHere (d := d) a2
          simp only [e_TP_takeNumber_5, k_TP_takeNumber_5, rr, sh, Nat.reduceLT, Nat.reduceMul, Int.reduceToNat, Int.reduceGT, Int.reduceGE, Int.reduceNe, true_and, and_true, true_or, or_true, false_or, or_false, and_self, or_self, if_true, if_false, reduceIte, not_true_eq_false, not_false_eq_true, Int.reduceEq, Int.reduceNe, Int.reduceLT, Int.reduceLE, Int.reduceAdd, Int.reduceSub, Int.reduceMul, Int.reduceNeg, Nat.reduceAdd, Nat.reduceLeDiff, Nat.reduceEqDiff, ne_eq, List.length_cons, List.length_nil, Nat.reduceSub, a2, q_byteZ hT hv, q_isDigitC, c, show bI true = 1 from rfl, fh]
          exact hlong c _ ((hF.hs (c := 2) (j := 6) rfl).hs (c := 2) (j := 7) rfl) ((hs2 (by decide)).trans hs_same) hs_same
        · have c' : dgB (bz V (b + k)) = false := by simpa using c
          have hin := hin c'
          have n4 : hs H' 2 3 ((b + k : Nat) : Int) 2 4 = nuV V b k := (hs2 (by decide)).trans a4
          have n5 : hs H' 2 3 ((b + k : Nat) : Int) 2 5 = b := (hs2 (by decide)).trans a5
          have hF3 : Fx sLX H (hs H' 2 3 ((b + k : Nat) : Int)) := hF.hs (c := 2) (j := 3) rfl
          by_cases c1 : nuV V b k < lo
          · simp only [e_TP_takeNumber_5, k_TP_takeNumber_5, e_TP_takeNumber_6, k_TP_takeNumber_6, e_TP_takeNumber_7, k_TP_takeNumber_7, e_TP_takeNumber_8, k_TP_takeNumber_8, e_TP_takeNumber_9, k_TP_takeNumber_9, e_TP_takeNumber_10, k_TP_takeNumber_10, rr, sh, Nat.reduceLT, Nat.reduceMul, Int.reduceToNat, Int.reduceGT, Int.reduceGE, Int.reduceNe, true_and, and_true, true_or, or_true, false_or, or_false, and_self, or_self, if_true, if_false, reduceIte, not_true_eq_false, not_false_eq_true, Int.reduceEq, Int.reduceNe, Int.reduceLT, Int.reduceLE, Int.reduceAdd, Int.reduceSub, Int.reduceMul, Int.reduceNeg, Nat.reduceAdd, Nat.reduceLeDiff, Nat.reduceEqDiff, ne_eq, List.length_cons, List.length_nil, Nat.reduceSub, a2, q_byteZ hT hv, q_isDigitC, c', show bI false = 0 from rfl, n4, n5, c1, q_failC]
            exact (hin _ ((hF3.hs (c := 2) (j := 6) rfl).hs (c := 2) (j := 7) rfl) ((hs2 (by decide)).trans ((hs2 (by decide)).trans ((hs2 (by decide)).trans a2))) ((hs2 (by decide)).trans ((hs2 (by decide)).trans hs_same)) ((hs2 (by decide)).trans ((hs2 (by decide)).trans n4)) ((hs2 (by decide)).trans ((hs2 (by decide)).trans n5))).2 (fun z => absurd z.1 (Int.not_le.mpr c1)) ((hs2 (by decide)).trans hs_same) hs_same
          · by_cases c2 : nuV V b k ≤ hi
            · simp only [e_TP_takeNumber_5, k_TP_takeNumber_5, e_TP_takeNumber_6, k_TP_takeNumber_6, e_TP_takeNumber_7, k_TP_takeNumber_7, e_TP_takeNumber_8, k_TP_takeNumber_8, e_TP_takeNumber_9, k_TP_takeNumber_9, e_TP_takeNumber_10, k_TP_takeNumber_10, rr, sh, Nat.reduceLT, Nat.reduceMul, Int.reduceToNat, Int.reduceGT, Int.reduceGE, Int.reduceNe, true_and, and_true, true_or, or_true, false_or, or_false, and_self, or_self, if_true, if_false, reduceIte, not_true_eq_false, not_false_eq_true, Int.reduceEq, Int.reduceNe, Int.reduceLT, Int.reduceLE, Int.reduceAdd, Int.reduceSub, Int.reduceMul, Int.reduceNeg, Nat.reduceAdd, Nat.reduceLeDiff, Nat.reduceEqDiff, ne_eq, List.length_cons, List.length_nil, Nat.reduceSub, a2, q_byteZ hT hv, q_isDigitC, c', show bI false = 0 from rfl, n4, n5, c1, c2]
              exact (hin _ hF3 ((hs2 (by decide)).trans a2) hs_same n4 n5).1 ⟨Int.not_lt.mp c1, c2⟩ ((hs2 (by decide)).trans a6) ((hs2 (by decide)).trans a7)
            · simp only [e_TP_takeNumber_5, k_TP_takeNumber_5, e_TP_takeNumber_6, k_TP_takeNumber_6, e_TP_takeNumber_7, k_TP_takeNumber_7, e_TP_takeNumber_8, k_TP_takeNumber_8, e_TP_takeNumber_9, k_TP_takeNumber_9, e_TP_takeNumber_10, k_TP_takeNumber_10, rr, sh, Nat.reduceLT, Nat.reduceMul, Int.reduceToNat, Int.reduceGT, Int.reduceGE, Int.reduceNe, true_and, and_true, true_or, or_true, false_or, or_false, and_self, or_self, if_true, if_false, reduceIte, not_true_eq_false, not_false_eq_true, Int.reduceEq, Int.reduceNe, Int.reduceLT, Int.reduceLE, Int.reduceAdd, Int.reduceSub, Int.reduceMul, Int.reduceNeg, Nat.reduceAdd, Nat.reduceLeDiff, Nat.reduceEqDiff, ne_eq, List.length_cons, List.length_nil, Nat.reduceSub, a2, q_byteZ hT hv, q_isDigitC, c', show bI false = 0 from rfl, n4, n5, c1, c2, q_failC]
              exact (hin _ ((hF3.hs (c := 2) (j := 6) rfl).hs (c := 2) (j := 7) rfl) ((hs2 (by decide)).trans ((hs2 (by decide)).trans ((hs2 (by decide)).trans a2))) ((hs2 (by decide)).trans ((hs2 (by decide)).trans hs_same)) ((hs2 (by decide)).trans ((hs2 (by decide)).trans n4)) ((hs2 (by decide)).trans ((hs2 (by decide)).trans n5))).2 (fun z => absurd z.2 c2) ((hs2 (by decide)).trans hs_same) hs_same
      clear hlong hin
      refine up_nat (P := fun k => ∀ H', Fx sLX H H' → H' 2 2 = ((b + k : Nat) : Int) → H' 2 4 = nuV V b k → H' 2 5 = b → H' 2 6 = H 2 6 → H' 2 7 = H 2 7 → (∀ i : Nat, i < k → dgB (bz V (b + i)) = true) → runE dgB V (5 - k) (b + k) = dgE V b → R (d + 2) TP_takeNumber (blk TP_takeNumber 4) [va 2, vi lo, vi hi, vi 1, vi k] [] H' Q) (n := 5) ?_ ?_ 0 (by decide) _ gF g4 g3 g5 g6 g7 (fun i hi => absurd hi (Nat.not_lt_zero i)) rfl
      · intro H' hF a2 a4 a5 a6 a7 hd5 he
        rw [e_TP_takeNumber_4]
        simp only [k_TP_takeNumber_4, rr, sh, Nat.reduceLT, Nat.reduceMul, Int.reduceToNat, Int.reduceGT, Int.reduceGE, Int.reduceNe, true_and, and_true, true_or, or_true, false_or, or_false, and_self, or_self, if_true, if_false, reduceIte, not_true_eq_false, not_false_eq_true, Int.reduceEq, Int.reduceNe, Int.reduceLT, Int.reduceLE, Int.reduceAdd, Int.reduceSub, Int.reduceMul, Int.reduceNeg, Nat.reduceAdd, Nat.reduceLeDiff, Nat.reduceEqDiff, ne_eq, List.length_cons, List.length_nil, Nat.reduceSub, show (5 : Int) ≤ ((5 : Nat) : Int) by decide]
        exact fin 5 H' (by decide) he hF a2 a4 a5 a6 a7
      · intro k hk ih H' hF a2 a4 a5 a6 a7 hdk he
        have hv := sLX_tp h hF
        have k9 : k < 2147483647 := Nat.lt_trans hk (by decide)
        have b9 : b + k < 2147483647 := Nat.lt_of_lt_of_le (Nat.add_lt_add_of_le_of_lt (Nat.le_trans s.2 n16) hk) (by decide)
        have c5 : ¬ (5 : Int) ≤ (k : Int) := fun z => absurd (Int.ofNat_le.mp z) (Nat.not_le.mpr hk)
        have kw := w32_s (n := k) k9
        have bw := w32_s (n := b + k) b9
        rw [e_TP_takeNumber_4]
        by_cases c : dgB (bz V (b + k)) = true
        · have nw := nu_w (nuV_le (Nat.le_of_lt hk) hdk) (bz_rng hT (b + k))
          have z2 : ∀ v, hs H' 2 4 v 2 2 = ((b + k : Nat) : Int) := fun v => (hs2 (by decide)).trans a2
          simp only [k_TP_takeNumber_4, rr, sh, Nat.reduceLT, Nat.reduceMul, Int.reduceToNat, Int.reduceGT, Int.reduceGE, Int.reduceNe, true_and, and_true, true_or, or_true, false_or, or_false, and_self, or_self, if_true, if_false, reduceIte, not_true_eq_false, not_false_eq_true, Int.reduceEq, Int.reduceNe, Int.reduceLT, Int.reduceLE, Int.reduceAdd, Int.reduceSub, Int.reduceMul, Int.reduceNeg, Nat.reduceAdd, Nat.reduceLeDiff, Nat.reduceEqDiff, ne_eq, List.length_cons, List.length_nil, Nat.reduceSub, c5, a2, q_byteZ hT hv, q_isDigitC, c, show bI true = 1 from rfl, a4, nw, z2, bw, kw]
          refine ih _ ((hF.hs (c := 2) (j := 4) rfl).hs (c := 2) (j := 2) rfl) hs_same ((hs2 (by decide)).trans hs_same) ((hs2 (by decide)).trans ((hs2 (by decide)).trans a5)) ((hs2 (by decide)).trans ((hs2 (by decide)).trans a6)) ((hs2 (by decide)).trans ((hs2 (by decide)).trans a7)) (fun i hi => ?_) ?_
          · by_cases z : i = k
            · rw [z]; exact c
            · exact hdk i (Nat.lt_of_le_of_ne (Nat.le_of_lt_succ hi) z)
          · rw [← he]
            obtain ⟨f, hf⟩ : ∃ f, 5 - k = f + 1 := ⟨5 - k - 1, (Nat.sub_add_cancel (Nat.sub_pos_of_lt hk)).symm⟩
            rw [hf, dgE_go c, five_s hk hf]
            rfl
        · have c' : dgB (bz V (b + k)) = false := by simpa using c
          rw [dgE_no _ c'] at he
          simp only [k_TP_takeNumber_4, rr, sh, Nat.reduceLT, Nat.reduceMul, Int.reduceToNat, Int.reduceGT, Int.reduceGE, Int.reduceNe, true_and, and_true, true_or, or_true, false_or, or_false, and_self, or_self, if_true, if_false, reduceIte, not_true_eq_false, not_false_eq_true, Int.reduceEq, Int.reduceNe, Int.reduceLT, Int.reduceLE, Int.reduceAdd, Int.reduceSub, Int.reduceMul, Int.reduceNeg, Nat.reduceAdd, Nat.reduceLeDiff, Nat.reduceEqDiff, ne_eq, List.length_cons, List.length_nil, Nat.reduceSub, c5, a2, q_byteZ hT hv, q_isDigitC, c', show bI false = 0 from rfl]
          exact fin k H' (Nat.le_of_lt hk) he hF a2 a4 a5 a6 a7
  · have l1' : dgB (bz V (skE V a)) = false := by simpa using l1
    have := hfail (by unfold dgH; rw [l1']; rfl)
    simp only [en_TP_takeNumber, e_TP_takeNumber_0, k_TP_takeNumber_0, e_TP_takeNumber_1, k_TP_takeNumber_1, rr, sh, Nat.reduceLT, Nat.reduceMul, Int.reduceToNat, Int.reduceGT, Int.reduceGE, Int.reduceNe, true_and, and_true, true_or, or_true, false_or, or_false, and_self, or_self, if_true, if_false, reduceIte, not_true_eq_false, not_false_eq_true, Int.reduceEq, Int.reduceNe, Int.reduceLT, Int.reduceLE, Int.reduceAdd, Int.reduceSub, Int.reduceMul, Int.reduceNeg, Nat.reduceAdd, Nat.reduceLeDiff, Nat.reduceEqDiff, ne_eq, List.length_cons, List.length_nil, Nat.reduceSub, q_next hT h ha hn, q_isDigitC, l1', show bI false = 0 from rfl]
    exact this
end LS
