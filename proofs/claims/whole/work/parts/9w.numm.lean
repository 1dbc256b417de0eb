/-! THE READING, the reference: a number -/
def sLM (a b : Int) : Bool := if a = 71 then (decide (b = 2) || decide (b = 4) || decide (b = 5) || decide (b = 6) || decide (b = 10)) else false
section LR
variable {d : Nat} {V H : Hp} {Q : AV → Hp → Prop}
theorem sLM_tm {H H' : Hp} (h : TmV V H) (hF : Fx sLM H H') : TmV V H' := ⟨(hF 71 0 rfl).trans h.1, (hF 71 3 rfl).trans h.2.1, (hF.cell 72 (fun _ => rfl)).trans h.2.2⟩
theorem q_number' {lo hi : Int} (hb : H 71 5 ≠ 0) : CC d MO_number [va 71, vi lo, vi hi] H Q = Q (vi 0) H := by
  refine CC_dt fun Q hQ => ?_
  simp only [en_MO_number, e_MO_number_0, k_MO_number_0, rr, sh, Nat.reduceLT, Nat.reduceMul, Int.reduceToNat, Int.reduceGT, Int.reduceGE, Int.reduceNe, true_and, and_true, true_or, or_true, false_or, or_false, and_self, or_self, if_true, if_false, reduceIte, not_true_eq_false, not_false_eq_true, Int.reduceEq, Int.reduceNe, Int.reduceLT, Int.reduceLE, Int.reduceAdd, Int.reduceSub, Int.reduceMul, Int.reduceNeg, Nat.reduceAdd, Nat.reduceLeDiff, Nat.reduceEqDiff, ne_eq, List.length_cons, List.length_nil, Nat.reduceSub, hb]
  exact hQ
theorem nu_w2 {v c : Int} (h : 0 ≤ v ∧ v ≤ 99999) (h2 : -1 ≤ c ∧ c < 256) : w32 (w32 (w32 (10 * v) + c) - 48) = 10 * v + c - 48 := by
  rw [w32_id (x := 10 * v) (by omega) (by omega), w32_id (x := 10 * v + c) (by omega) (by omega), w32_id (by omega) (by omega)]
theorem dg_in {V : Hp} {k : Nat} (h : dgB (bz V k) = true) : k < tpN V := by
  apply Classical.byContradiction
  intro z
  rw [bz_past (Nat.not_lt.mp z)] at h
  cases h
theorem sub_bk {b k : Nat} (h : b + k < 100000) : w32 (((b + k : Nat) : Int) - b) = k := by rw [w32_id (by omega) (by omega)]; omega
set_option maxRecDepth 20000 in
theorem c_number (hT : TapeR V) (h : TmV V H) {a : Nat} (ha : H 71 2 = a) (hn : a ≤ tpN V) {j : Int} (hj : H 71 4 = j) (hb : H 71 5 = 0) {lo hi : Int}
    (hno : dgH V a j = false → ∀ H', Fx sLM H H' → H' 71 5 = 1 → H' 71 6 = skE V a → Q (vi 0) H')
    (hlong : dgH V a j = true → dgB (bz V (dgE V (skE V a))) = true → ∀ H', Fx sLM H H' → H' 71 5 = 1 → H' 71 6 = dgE V (skE V a) → Q (vi 0) H') : (∀ k : Nat, k ≤ 5 → dgH V a j = true → skE V a + k = dgE V (skE V a) → dgB (bz V (dgE V (skE V a))) = false → ∀ H', Fx sLM H H' → H' 71 2 = ((skE V a + k : Nat) : Int) → H' 71 5 = 0 → H' 71 6 = H 71 6 → R (d + 1) MO_number (blk MO_number 6) [va 71, vi lo, vi hi, vi (skE V a), vi (nuV V (skE V a) k)] [] H' Q) → CC (d + 1) MO_number [va 71, vi lo, vi hi] H Q := by
  intro fin
  have n16 := tpN_le hT
  have s := skE_rng hn
  have b4 : hs H 71 2 (skE V a) 71 4 = j := (hs2 (by decide)).trans hj
  have b2 : hs H 71 2 (skE V a) 71 2 = skE V a := hs_same
  have b5 : hs H 71 2 (skE V a) 71 5 = 0 := (hs2 (by decide)).trans hb
  have b6 : hs H 71 2 (skE V a) 71 6 = H 71 6 := hs2 (by decide)
  have f0 : Fx sLM H (hs H 71 2 (skE V a)) := Fx.rf.hs (c := 71) (j := 2) rfl
  by_cases l1 : dgB (bz V (skE V a)) = true
  · by_cases l2 : (skE V a : Int) = j
    · have := hno (by unfold dgH; rw [l1, decide_eq_false (fun z => z l2)]; rfl)
      subst l2
      simp only [en_MO_number, e_MO_number_0, k_MO_number_0, e_MO_number_1, k_MO_number_1, e_MO_number_2, k_MO_number_2, rr, sh, Nat.reduceLT, Nat.reduceMul, Int.reduceToNat, Int.reduceGT, Int.reduceGE, Int.reduceNe, true_and, and_true, true_or, or_true, false_or, or_false, and_self, or_self, if_true, if_false, reduceIte, not_true_eq_false, not_false_eq_true, Int.reduceEq, Int.reduceNe, Int.reduceLT, Int.reduceLE, Int.reduceAdd, Int.reduceSub, Int.reduceMul, Int.reduceNeg, Nat.reduceAdd, Nat.reduceLeDiff, Nat.reduceEqDiff, ne_eq, List.length_cons, List.length_nil, Nat.reduceSub, hb, q_look hT h ha hn, q_isDigitM, l1, show bI true = 1 from rfl, b2, b4, q_failM b5]
      exact this _ ((f0.hs (c := 71) (j := 5) rfl).hs (c := 71) (j := 6) rfl) ((hs2 (by decide)).trans hs_same) hs_same
    · have hd : dgH V a j = true := by unfold dgH; rw [l1, decide_eq_true l2]; rfl
      have hlong := hlong hd
      simp only [en_MO_number, e_MO_number_0, k_MO_number_0, e_MO_number_1, k_MO_number_1, e_MO_number_3, k_MO_number_3, rr, sh, Nat.reduceLT, Nat.reduceMul, Int.reduceToNat, Int.reduceGT, Int.reduceGE, Int.reduceNe, true_and, and_true, true_or, or_true, false_or, or_false, and_self, or_self, if_true, if_false, reduceIte, not_true_eq_false, not_false_eq_true, Int.reduceEq, Int.reduceNe, Int.reduceLT, Int.reduceLE, Int.reduceAdd, Int.reduceSub, Int.reduceMul, Int.reduceNeg, Nat.reduceAdd, Nat.reduceLeDiff, Nat.reduceEqDiff, ne_eq, List.length_cons, List.length_nil, Nat.reduceSub, hb, q_look hT h ha hn, q_isDigitM, l1, show bI true = 1 from rfl, b2, b4, l2]
      generalize hs H 71 2 (skE V a) = G at *
      generalize skE V a = b at *
      have out : ∀ (k : Nat) (H' : Hp), k ≤ 5 → b + k = dgE V b → dgB (bz V (b + k)) = false → Fx sLM H H' → H' 71 2 = ((b + k : Nat) : Int) → H' 71 5 = 0 → H' 71 6 = H 71 6 → R (d + 1) MO_number (blk MO_number 4) [va 71, vi lo, vi hi, vi b, vi (nuV V b k)] [] H' Q := by
        intro k H' hk he c' hF a2 a5 a6
        have := fin k hk hd he (by rw [← he]; exact c') H' hF a2 a5 a6
        have hv := sLM_tm h hF
        have g0 := hv.1
        have g3 := hv.2.1
        rw [e_MO_number_4]
        by_cases kt : b + k < tpN V
        · have c1 : ¬ (tpN V : Int) ≤ ((b + k : Nat) : Int) := fun z => absurd (Int.ofNat_le.mp z) (Nat.not_le.mpr kt)
          have j1 : 0 ≤ ((b + k : Nat) : Int) ∧ ((b + k : Nat) : Int) < 1600 := ⟨Int.natCast_nonneg _, Int.ofNat_lt.mpr (Nat.lt_of_lt_of_le kt n16)⟩
          have g2 := ma_72 hT hv kt
          simp only [k_MO_number_4, rr, sh, Nat.reduceLT, Nat.reduceMul, Int.reduceToNat, Int.reduceGT, Int.reduceGE, Int.reduceNe, true_and, and_true, true_or, or_true, false_or, or_false, and_self, or_self, if_true, if_false, reduceIte, not_true_eq_false, not_false_eq_true, Int.reduceEq, Int.reduceNe, Int.reduceLT, Int.reduceLE, Int.reduceAdd, Int.reduceSub, Int.reduceMul, Int.reduceNeg, Nat.reduceAdd, Nat.reduceLeDiff, Nat.reduceEqDiff, ne_eq, List.length_cons, List.length_nil, Nat.reduceSub, a2, g0, g2, g3, c1, j1, q_isDigitM, c', show bI false = 0 from rfl]
          exact this
        · have c1 : (tpN V : Int) ≤ ((b + k : Nat) : Int) := Int.ofNat_le.mpr (Nat.not_lt.mp kt)
          simp only [k_MO_number_4, rr, sh, Nat.reduceLT, Nat.reduceMul, Int.reduceToNat, Int.reduceGT, Int.reduceGE, Int.reduceNe, true_and, and_true, true_or, or_true, false_or, or_false, and_self, or_self, if_true, if_false, reduceIte, not_true_eq_false, not_false_eq_true, Int.reduceEq, Int.reduceNe, Int.reduceLT, Int.reduceLE, Int.reduceAdd, Int.reduceSub, Int.reduceMul, Int.reduceNeg, Nat.reduceAdd, Nat.reduceLeDiff, Nat.reduceEqDiff, ne_eq, List.length_cons, List.length_nil, Nat.reduceSub, a2, g3, c1]
          exact this
      refine up_nat (P := fun k => ∀ H', Fx sLM H H' → H' 71 2 = ((b + k : Nat) : Int) → H' 71 5 = 0 → H' 71 6 = H 71 6 → (∀ i : Nat, i < k → dgB (bz V (b + i)) = true) → runE dgB V (5 - k) (b + k) = dgE V b → R (d + 1) MO_number (blk MO_number 4) [va 71, vi lo, vi hi, vi b, vi (nuV V b k)] [] H' Q) (n := 5) ?_ ?_ 0 (by decide) _ f0 b2 b5 b6 (fun i hi => absurd hi (Nat.not_lt_zero i)) rfl
      · intro H' hF a2 a5 a6 hdk he
        have he : b + 5 = dgE V b := he
        have hv := sLM_tm h hF
        have g0 := hv.1
        have g3 := hv.2.1
        by_cases c : dgB (bz V (b + 5)) = true
        · have kt := dg_in c
          have c1 : ¬ (tpN V : Int) ≤ ((b + 5 : Nat) : Int) := fun z => absurd (Int.ofNat_le.mp z) (Nat.not_le.mpr kt)
          have j1 : 0 ≤ ((b + 5 : Nat) : Int) ∧ ((b + 5 : Nat) : Int) < 1600 := ⟨Int.natCast_nonneg _, Int.ofNat_lt.mpr (Nat.lt_of_lt_of_le kt n16)⟩
          have g2 := ma_72 hT hv kt
          have sb := sub_bk (b := b) (k := 5) (Nat.lt_of_lt_of_le kt (Nat.le_trans n16 (by decide)))
          rw [e_MO_number_4]
          simp only [k_MO_number_4, rr, sh, Nat.reduceLT, Nat.reduceMul, Int.reduceToNat, Int.reduceGT, Int.reduceGE, Int.reduceNe, true_and, and_true, true_or, or_true, false_or, or_false, and_self, or_self, if_true, if_false, reduceIte, not_true_eq_false, not_false_eq_true, Int.reduceEq, Int.reduceNe, Int.reduceLT, Int.reduceLE, Int.reduceAdd, Int.reduceSub, Int.reduceMul, Int.reduceNeg, Nat.reduceAdd, Nat.reduceLeDiff, Nat.reduceEqDiff, ne_eq, List.length_cons, List.length_nil, Nat.reduceSub, a2, g0, g2, g3, c1, j1, q_isDigitM, c, show bI true = 1 from rfl, sb, show ((5 : Nat) : Int) = 5 from rfl, q_failM a5]
          exact hlong (by rw [← he]; exact c) _ ((hF.hs (c := 71) (j := 5) rfl).hs (c := 71) (j := 6) rfl) ((hs2 (by decide)).trans hs_same) (by rw [← he]; exact hs_same)
        · have c' : dgB (bz V (b + 5)) = false := by simpa using c
          exact out 5 H' (by decide) he c' hF a2 a5 a6
      · intro k hk ih H' hF a2 a5 a6 hdk he
        have hv := sLM_tm h hF
        have g0 := hv.1
        have g3 := hv.2.1
        by_cases c : dgB (bz V (b + k)) = true
        · have kt := dg_in c
          have c1 : ¬ (tpN V : Int) ≤ ((b + k : Nat) : Int) := fun z => absurd (Int.ofNat_le.mp z) (Nat.not_le.mpr kt)
          have j1 : 0 ≤ ((b + k : Nat) : Int) ∧ ((b + k : Nat) : Int) < 1600 := ⟨Int.natCast_nonneg _, Int.ofNat_lt.mpr (Nat.lt_of_lt_of_le kt n16)⟩
          have g2 := ma_72 hT hv kt
          have sb := sub_bk (b := b) (k := k) (Nat.lt_of_lt_of_le kt (Nat.le_trans n16 (by decide)))
          have k5 : ¬ (k : Int) = 5 := fun z => absurd (Int.ofNat_inj.mp z) (Nat.ne_of_lt hk)
          have bw := w32_s (n := b + k) (Nat.lt_of_lt_of_le kt (Nat.le_trans n16 (by decide)))
          have nw := nu_w2 (nuV_le (Nat.le_of_lt hk) hdk) (bz_rng hT (b + k))
          rw [e_MO_number_4]
          simp only [k_MO_number_4, e_MO_number_5, k_MO_number_5, rr, sh, Nat.reduceLT, Nat.reduceMul, Int.reduceToNat, Int.reduceGT, Int.reduceGE, Int.reduceNe, true_and, and_true, true_or, or_true, false_or, or_false, and_self, or_self, if_true, if_false, reduceIte, not_true_eq_false, not_false_eq_true, Int.reduceEq, Int.reduceNe, Int.reduceLT, Int.reduceLE, Int.reduceAdd, Int.reduceSub, Int.reduceMul, Int.reduceNeg, Nat.reduceAdd, Nat.reduceLeDiff, Nat.reduceEqDiff, ne_eq, List.length_cons, List.length_nil, Nat.reduceSub, a2, g0, g2, g3, c1, j1, q_isDigitM, c, show bI true = 1 from rfl, sb, k5, nw, bw]
          refine ih _ (hF.hs (c := 71) (j := 2) rfl) hs_same ((hs2 (by decide)).trans a5) ((hs2 (by decide)).trans a6) (fun i hi => ?_) ?_
          · by_cases z : i = k
            · rw [z]; exact c
            · exact hdk i (Nat.lt_of_le_of_ne (Nat.le_of_lt_succ hi) z)
          · rw [← he]
            obtain ⟨f, hf⟩ : ∃ f, 5 - k = f + 1 := ⟨5 - k - 1, (Nat.sub_add_cancel (Nat.sub_pos_of_lt hk)).symm⟩
            rw [hf, dgE_go c, five_s hk hf]
            rfl
        · have c' : dgB (bz V (b + k)) = false := by simpa using c
          rw [dgE_no _ c'] at he
          exact out k H' (Nat.le_of_lt hk) he c' hF a2 a5 a6
  · have l1' : dgB (bz V (skE V a)) = false := by simpa using l1
    have := hno (by unfold dgH; rw [l1']; rfl)
    simp only [en_MO_number, e_MO_number_0, k_MO_number_0, e_MO_number_1, k_MO_number_1, e_MO_number_2, k_MO_number_2, rr, sh, Nat.reduceLT, Nat.reduceMul, Int.reduceToNat, Int.reduceGT, Int.reduceGE, Int.reduceNe, true_and, and_true, true_or, or_true, false_or, or_false, and_self, or_self, if_true, if_false, reduceIte, not_true_eq_false, not_false_eq_true, Int.reduceEq, Int.reduceNe, Int.reduceLT, Int.reduceLE, Int.reduceAdd, Int.reduceSub, Int.reduceMul, Int.reduceNeg, Nat.reduceAdd, Nat.reduceLeDiff, Nat.reduceEqDiff, ne_eq, List.length_cons, List.length_nil, Nat.reduceSub, hb, q_look hT h ha hn, q_isDigitM, l1', show bI false = 0 from rfl, b2, q_failM b5]
    exact this _ ((f0.hs (c := 71) (j := 5) rfl).hs (c := 71) (j := 6) rfl) ((hs2 (by decide)).trans hs_same) hs_same
end LR
