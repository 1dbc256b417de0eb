/-! apart -/
section HE
variable {d : Nat} {V H : Hp} {Q : AV → Hp → Prop}
set_option maxRecDepth 20000 in
theorem q_apartM (hM : Inm V) (hH : Vw V H) {b : Int} (dy : Bool) : CC (d + 2) MO_apart [va 71, vi b, vi (bI dy)] H Q = Q (vl (apartS V b dy)) H := by
  refine CC_dt fun Q hQ => ?_
  have hy := hM.boat.y
  have h2 := pow12 hy.2
  have e0 := one_shl hy.2
  unfold apartS at hQ
  generalize 2 ^ nY V = P at hQ e0 h2
  have w1 : w32 ((P : Int) - 1) = (P : Int) - 1 := w32_id (by omega) (by omega)
  by_cases h : 0 ≤ b ∧ b ≤ (P : Int) - 1
  · obtain ⟨k, rfl⟩ := Int.eq_ofNat_of_zero_le h.1
    have w2 : w32 ((k : Int).tmod 2) = (k : Int) % 2 := by rw [Int.tmod_eq_emod_of_nonneg (by omega), w32_id (by omega) (by omega)]
    have i1 : k < 4096 := by omega
    have f := hH.f hM.ptr; simp only [en_MO_apart, e_MO_apart_0, k_MO_apart_0, e_MO_apart_1, k_MO_apart_1, e_MO_apart_2, k_MO_apart_2, en_MO_payments, e_MO_payments_0, k_MO_payments_0, rr, sh, Nat.reduceLT, Nat.reduceMul, Int.reduceToNat, Int.reduceGT, Int.reduceGE, Int.reduceNe, true_and, and_true, true_or, or_true, false_or, or_false, and_self, or_self, if_true, if_false, reduceIte, not_true_eq_false, not_false_eq_true, Int.reduceEq, Int.reduceNe, Int.reduceLT, Int.reduceLE, Int.reduceAdd, Int.reduceSub, Int.reduceMul, Int.reduceNeg, Nat.reduceAdd, Nat.reduceLeDiff, Nat.reduceEqDiff, ne_eq, List.length_cons, List.length_nil, Nat.reduceSub, ite10_0, ite10_1, ite10_01, Classical.not_not, f, hy.1, e0, w1, w2, q_isIn, h, q_apartBy hM hH i1 dy] <;> clear f e0 w1 w2
    by_cases h3 : (k : Int) % 2 = 0
    · by_cases h4 : nY V = 0
      · rw [if_neg (by omega)] at hQ
        rw [if_neg (fun q => q h3), if_pos (by omega)]; exact hQ
      · rw [if_pos (by omega)] at hQ
        rw [if_neg (fun q => q h3), if_neg (by omega)]; exact hQ
    · rw [if_neg (by omega)] at hQ
      rw [if_pos h3]; exact hQ
  · rw [if_neg (by omega)] at hQ
    have f := hH.f hM.ptr; simp only [en_MO_apart, e_MO_apart_0, k_MO_apart_0, e_MO_apart_1, k_MO_apart_1, e_MO_apart_2, k_MO_apart_2, en_MO_payments, e_MO_payments_0, k_MO_payments_0, rr, sh, Nat.reduceLT, Nat.reduceMul, Int.reduceToNat, Int.reduceGT, Int.reduceGE, Int.reduceNe, true_and, and_true, true_or, or_true, false_or, or_false, and_self, or_self, if_true, if_false, reduceIte, not_true_eq_false, not_false_eq_true, Int.reduceEq, Int.reduceNe, Int.reduceLT, Int.reduceLE, Int.reduceAdd, Int.reduceSub, Int.reduceMul, Int.reduceNeg, Nat.reduceAdd, Nat.reduceLeDiff, Nat.reduceEqDiff, ne_eq, List.length_cons, List.length_nil, Nat.reduceSub, ite10_0, ite10_1, ite10_01, Classical.not_not, f, hy.1, e0, w1, q_isIn, h] <;> clear f e0 w1
    exact hQ
set_option maxRecDepth 20000 in
theorem q_apartC (hI : Inq V) (hH : Vw V H) {b : Int} (dy : Bool) : CC (d + 3) EO_apart [va 1, vi b, vi (bI dy)] H Q = Q (vl (apartS V b dy)) H := by
  refine CC_dt fun Q hQ => ?_
  have hy := hI.boat.y
  have h1 := hI.plan.pays
  have h2 := pow12 hy.2
  have e0 := one_shl hy.2
  have hsh : shc (V 4 0) = 5 := by rcases hI.pp with h | h <;> rw [h] <;> rfl
  unfold apartS at hQ
  generalize 2 ^ nY V = P at hQ e0 h2
  have f := hH.f hI.ptr; have g := pl_f hH hI.pp hI.ptr; simp only [en_EO_apart, e_EO_apart_0, k_EO_apart_0, en_HV_heirsApart, e_HV_heirsApart_0, k_HV_heirsApart_0, e_HV_heirsApart_1, k_HV_heirsApart_1, e_HV_heirsApart_2, k_HV_heirsApart_2, rr, sh, Nat.reduceLT, Nat.reduceMul, Int.reduceToNat, Int.reduceGT, Int.reduceGE, Int.reduceNe, true_and, and_true, true_or, or_true, false_or, or_false, and_self, or_self, if_true, if_false, reduceIte, not_true_eq_false, not_false_eq_true, Int.reduceEq, Int.reduceNe, Int.reduceLT, Int.reduceLE, Int.reduceAdd, Int.reduceSub, Int.reduceMul, Int.reduceNeg, Nat.reduceAdd, Nat.reduceLeDiff, Nat.reduceEqDiff, ne_eq, List.length_cons, List.length_nil, Nat.reduceSub, ite10_0, ite10_1, ite10_01, Classical.not_not, f, g, h1, e0] <;> clear f g e0
  by_cases h0 : nY V = 0
  · rw [if_neg (by omega)] at hQ
    rw [if_pos (by omega)]; exact hQ
  · rw [if_neg (by omega)]
    by_cases h3 : b < 0
    · rw [if_neg (by omega)] at hQ
      rw [if_pos h3]; exact hQ
    · rw [if_neg h3]
      by_cases h4 : (P : Int) ≤ b
      · rw [if_neg (by omega)] at hQ
        rw [if_pos h4]; exact hQ
      · rw [if_neg h4]
        obtain ⟨k, rfl⟩ := Int.eq_ofNat_of_zero_le (show 0 ≤ b by omega)
        have w2 : w32 ((k : Int).tmod 2) = (k : Int) % 2 := by rw [Int.tmod_eq_emod_of_nonneg (by omega), w32_id (by omega) (by omega)]
        rw [w2]
        (repeat (refine And.intro (by omega) ?_))
        by_cases h5 : (k : Int) % 2 = 1
        · rw [if_neg (by omega)] at hQ
          rw [if_neg (fun q => q h5)]; exact hQ
        · rw [if_pos (by omega)] at hQ
          rw [if_pos h5]
          (repeat (refine And.intro (by omega) ?_))
          have hk4 : k < 4096 := by omega
          clear h2 w2 h3 h4 h5
          refine up_nat (P := fun j => ∀ x, R (d + 2) HV_heirsApart (blk HV_heirsApart 3) [va (V 4 0), vi k, vi (bI dy), vl (w64 (sumI (fun j => sgn (!k.testBit j) (payV V dy j)) j)), vu, vi j, x, vu] [] H (fun r H1 => R (d + 2 + 1) EO_apart [x_rl] [va 1, vi k, vi (bI dy)] [r] H1 Q)) ?_ ?_ 0 (Nat.zero_le (nY V)) vu
          · intro x
            rw [e_HV_heirsApart_3]
            have f := hH.f hI.ptr; have g := pl_f hH hI.pp hI.ptr; simp only [k_HV_heirsApart_3, e_HV_heirsApart_6, k_HV_heirsApart_6, rr, sh, Nat.reduceLT, Nat.reduceMul, Int.reduceToNat, Int.reduceGT, Int.reduceGE, Int.reduceNe, true_and, and_true, true_or, or_true, false_or, or_false, and_self, or_self, if_true, if_false, reduceIte, not_true_eq_false, not_false_eq_true, Int.reduceEq, Int.reduceNe, Int.reduceLT, Int.reduceLE, Int.reduceAdd, Int.reduceSub, Int.reduceMul, Int.reduceNeg, Nat.reduceAdd, Nat.reduceLeDiff, Nat.reduceEqDiff, ne_eq, List.length_cons, List.length_nil, Nat.reduceSub, ite10_0, ite10_1, ite10_01, Classical.not_not, f, g, h1, Int.le_refl] <;> clear f g
            exact hQ
          · intro j hj ih x
            have c1 : ¬ (nY V : Int) ≤ j := by omega
            have hr := payV_rng hI.m hj dy
            have w2 : w64 (-payV V dy j) = -payV V dy j := w64_id (by omega) (by omega)
            have ih1 := ih (vl (payV V dy j))
            have ea : w64 (w64 (sumI (fun j => sgn (!k.testBit j) (payV V dy j)) j) + sgn (!k.testBit j) (payV V dy j)) = w64 (sumI (fun j => sgn (!k.testBit j) (payV V dy j)) (j + 1)) := by rw [w64_al]; rfl
            rw [← ea] at ih1
            rw [e_HV_heirsApart_3]
            have f := hH.f hI.ptr; have g := pl_f hH hI.pp hI.ptr; simp only [k_HV_heirsApart_3, e_HV_heirsApart_4, k_HV_heirsApart_4, e_HV_heirsApart_5, k_HV_heirsApart_5, rr, sh, Nat.reduceLT, Nat.reduceMul, Int.reduceToNat, Int.reduceGT, Int.reduceGE, Int.reduceNe, true_and, and_true, true_or, or_true, false_or, or_false, and_self, or_self, if_true, if_false, reduceIte, not_true_eq_false, not_false_eq_true, Int.reduceEq, Int.reduceNe, Int.reduceLT, Int.reduceLE, Int.reduceAdd, Int.reduceSub, Int.reduceMul, Int.reduceNeg, Nat.reduceAdd, Nat.reduceLeDiff, Nat.reduceEqDiff, ne_eq, List.length_cons, List.length_nil, Nat.reduceSub, ite10_0, ite10_1, ite10_01, Classical.not_not, f, g, h1, c1, q_payment hI hH hj dy, b_bit (show k < 2147483648 by omega) (show j < 32 by omega), w2, w32_s (show j < 2147483647 by omega)] <;> clear f g w2
            clear hr ea hQ ih
            (repeat (refine And.intro (by omega) ?_))
            by_cases hb : k.testBit j = true
            · rw [hb] at ih1; rw [if_neg (fun q => q hb)]; (repeat (refine And.intro (by omega) ?_)); exact ih1
            · simp only [Bool.not_eq_true] at hb; rw [hb] at ih1; rw [if_pos (by simp [hb])]; (repeat (refine And.intro (by omega) ?_)); exact ih1
def phG (V : Hp) (i k : Nat) : Int := payV V (decide (i = 1)) k
set_option maxRecDepth 20000 in
theorem c_addPay (hI : Inq V) (hH : Vw V H) {u : Nat} (hu : u < 2) (hL : LaneS H (nY V) u (phG V) (fun _ => 0) 0) (hQ : ∀ H', Vw V H' → LaneS H' (nY V) (u + 1) (phG V) (fun _ => 0) 0 → Q vu H') : CC (d + 1) HV_addPayments [va 66, va (V 4 0), va 42, vi (bI (decide (u = 1)))] H Q := by
  have hy := hI.boat.y
  have h1 := hI.plan.pays
  have f := hH.f hI.ptr; have g := pl_f hH hI.pp hI.ptr; simp only [en_HV_addPayments, e_HV_addPayments_0, k_HV_addPayments_0, rr, sh, Nat.reduceLT, Nat.reduceMul, Int.reduceToNat, Int.reduceGT, Int.reduceGE, Int.reduceNe, true_and, and_true, true_or, or_true, false_or, or_false, and_self, or_self, if_true, if_false, reduceIte, not_true_eq_false, not_false_eq_true, Int.reduceEq, Int.reduceNe, Int.reduceLT, Int.reduceLE, Int.reduceAdd, Int.reduceSub, Int.reduceMul, Int.reduceNeg, Nat.reduceAdd, Nat.reduceLeDiff, Nat.reduceEqDiff, ne_eq, List.length_cons, List.length_nil, Nat.reduceSub, ite10_0, ite10_1, ite10_01, Classical.not_not, f, g] <;> clear f g
  (repeat (refine And.intro (by omega) ?_))
  refine up_nat (P := fun k => ∀ H', Vw V H' → LaneS H' (nY V) u (phG V) (fun _ => 0) 0 → (∀ j : Nat, j < k → H' 69 j = w64 (phG V u j)) → R (d + 1) HV_addPayments (blk HV_addPayments 1) [va 66, va (V 4 0), va 42, vi (bI (decide (u = 1))), vi k] [] H' Q) ?_ ?_ 0 (Nat.zero_le (nY V)) H hH hL (fun j hj => absurd hj (Nat.not_lt_zero j))
  · intro H' hH a2 a3
    rw [e_HV_addPayments_1]
    have f := hH.f hI.ptr; have g := pl_f hH hI.pp hI.ptr; simp only [k_HV_addPayments_1, e_HV_addPayments_2, k_HV_addPayments_2, rr, sh, Nat.reduceLT, Nat.reduceMul, Int.reduceToNat, Int.reduceGT, Int.reduceGE, Int.reduceNe, true_and, and_true, true_or, or_true, false_or, or_false, and_self, or_self, if_true, if_false, reduceIte, not_true_eq_false, not_false_eq_true, Int.reduceEq, Int.reduceNe, Int.reduceLT, Int.reduceLE, Int.reduceAdd, Int.reduceSub, Int.reduceMul, Int.reduceNeg, Nat.reduceAdd, Nat.reduceLeDiff, Nat.reduceEqDiff, ne_eq, List.length_cons, List.length_nil, Nat.reduceSub, ite10_0, ite10_1, ite10_01, Classical.not_not, f, g, h1, Int.le_refl] <;> clear f g
    (repeat (refine And.intro (by omega) ?_))
    exact c_add hI.ptr hH (u := u) (g := phG V) (e := fun _ => 0) hy.2 (by omega) (Or.inr (Or.inr rfl)) a2 rfl a3 fun H3 b1 b2 => hQ H3 (hH.fx b1 sLN_scr) b2
  · intro k hk ih H' hH a2 a3
    have c1 : ¬ (nY V : Int) ≤ k := by omega
    rw [e_HV_addPayments_1]
    have f := hH.f hI.ptr; have g := pl_f hH hI.pp hI.ptr; simp only [k_HV_addPayments_1, rr, sh, Nat.reduceLT, Nat.reduceMul, Int.reduceToNat, Int.reduceGT, Int.reduceGE, Int.reduceNe, true_and, and_true, true_or, or_true, false_or, or_false, and_self, or_self, if_true, if_false, reduceIte, not_true_eq_false, not_false_eq_true, Int.reduceEq, Int.reduceNe, Int.reduceLT, Int.reduceLE, Int.reduceAdd, Int.reduceSub, Int.reduceMul, Int.reduceNeg, Nat.reduceAdd, Nat.reduceLeDiff, Nat.reduceEqDiff, ne_eq, List.length_cons, List.length_nil, Nat.reduceSub, ite10_0, ite10_1, ite10_01, Classical.not_not, f, g, h1, c1, q_payment hI hH hk, w32_s (show k < 2147483647 by omega)] <;> clear f g
    (repeat (refine And.intro (by omega) ?_))
    refine ih _ (hH.hs (c := 69) (j := (k : Int)) rfl) (a2.hs (by decide) (by decide) (by decide)) ?_
    intro j hj
    rw [hs_app]
    by_cases h : j = k
    · rw [if_pos ⟨rfl, by omega⟩, h]
      have hr := payV_rng hI.m hk (decide (u = 1))
      exact (w64_id (by omega) (by omega)).symm
    · rw [if_neg (by omega)]; exact a3 j (by omega)
theorem nat_le0 {m : Nat} (h : m ≠ 0) : ¬ (m : Int) ≤ 0 := by omega
theorem mod2_c {m : Nat} : ((m : Int) % 2 = 0) = (m % 2 = 0) := propext ⟨fun h => by omega, fun h => by omega⟩
theorem part_e1 {m : Nat} (g2 : LaneS H (nY V) 2 (phG V) (fun _ => 0) m) : (H 43 0 = 0) = (apS V m false = 0) := by
  rw [← ap_lane, show H 43 0 = lnv (phG V) (fun _ => 0) (nY V) m 0 from g2.2.2.1 0 (by decide)]; rfl
theorem part_e2 {m : Nat} (g2 : LaneS H (nY V) 2 (phG V) (fun _ => 0) m) : (H 43 1 = 0) = (apS V m true = 0) := by
  rw [← ap_lane, show H 43 1 = lnv (phG V) (fun _ => 0) (nY V) m 1 from g2.2.2.1 1 (by decide)]; rfl
set_option maxRecDepth 20000 in
theorem c_part (hI : Inq V) (hH : Vw V H) (hQ : ∀ H', Vw V H' → H' 66 5 = cntF (hrP V) (2 ^ nY V) → H' 66 6 = optI (fstF (hrP V) (2 ^ nY V)) → Q vu H') : CC (d + 2) HV_partPayments [va 66, va (V 4 0), va 42] H Q := by
  have hy := hI.boat.y
  have h1 := hI.plan.pays
  have h2 := pow12 hy.2
  have e0 := one_shl hy.2
  have hsh : shc (V 4 0) = 5 := by rcases hI.pp with h | h <;> rw [h] <;> rfl
  have hp66 : V 4 0 ≠ 66 := by rcases hI.pp with h | h <;> rw [h] <;> decide
  generalize hP : 2 ^ nY V = P at hQ e0 h2
  have f := hH.f hI.ptr; have g := pl_f hH hI.pp hI.ptr; simp only [en_HV_partPayments, e_HV_partPayments_0, k_HV_partPayments_0, rr, sh, Nat.reduceLT, Nat.reduceMul, Int.reduceToNat, Int.reduceGT, Int.reduceGE, Int.reduceNe, true_and, and_true, true_or, or_true, false_or, or_false, and_self, or_self, if_true, if_false, reduceIte, not_true_eq_false, not_false_eq_true, Int.reduceEq, Int.reduceNe, Int.reduceLT, Int.reduceLE, Int.reduceAdd, Int.reduceSub, Int.reduceMul, Int.reduceNeg, Nat.reduceAdd, Nat.reduceLeDiff, Nat.reduceEqDiff, ne_eq, List.length_cons, List.length_nil, Nat.reduceSub, ite10_0, ite10_1, ite10_01, Classical.not_not, f, g] <;> clear f g
  (repeat (refine And.intro (by omega) ?_))
  refine c_clear hI.ptr hH (n := nY V) (g := phG V) (e := fun _ => 0) fun H1 b1 b2 => ?_
  have hV0 := hH
  have hH := hV0.fx b1 sLN_scr
  refine c_addPay hI hH (u := 0) (by decide) b2 fun H2 hH b3 => ?_
  refine c_addPay hI hH (u := 1) (by decide) b3 fun H3 hH b4 => ?_
  have g3 := (pl_f hH hI.pp hI.ptr).2.1
  simp only [hs_ne hp66, g3, h1, e0]
  clear g3
  (repeat (refine And.intro (by omega) ?_))
  refine up_nat (P := fun m => ∀ H', Vw V H' → LaneS H' (nY V) 2 (phG V) (fun _ => 0) (m - 1) → H' 66 5 = cntF (hrP V) m → H' 66 6 = optI (fstF (hrP V) m) → R (d + 2) HV_partPayments (blk HV_partPayments 1) [va 66, va (V 4 0), va 42, vi (P : Int), vi m] [] H' Q) ?_ ?_ 0 (Nat.zero_le P) _ ((hH.hs (c := 66) (j := 5) rfl).hs (c := 66) (j := 6) rfl) ((b4.hs (by decide) (by decide) (by decide)).hs (by decide) (by decide) (by decide)) rfl rfl
  · intro H' hH a2 a3 a4
    rw [e_HV_partPayments_1]
    simp only [k_HV_partPayments_1, e_HV_partPayments_6, k_HV_partPayments_6, rr, sh, Nat.reduceLT, Nat.reduceMul, Int.reduceToNat, Int.reduceGT, Int.reduceGE, Int.reduceNe, true_and, and_true, true_or, or_true, false_or, or_false, and_self, or_self, if_true, if_false, reduceIte, not_true_eq_false, not_false_eq_true, Int.reduceEq, Int.reduceNe, Int.reduceLT, Int.reduceLE, Int.reduceAdd, Int.reduceSub, Int.reduceMul, Int.reduceNeg, Nat.reduceAdd, Nat.reduceLeDiff, Nat.reduceEqDiff, ne_eq, List.length_cons, List.length_nil, Nat.reduceSub, ite10_0, ite10_1, ite10_01, Classical.not_not, Int.le_refl]
    exact hQ H' hH a3 a4
  · intro m hm ih H' hH a2 a3 a4
    have c1 : ¬ (P : Int) ≤ m := by omega
    have hm4 : m < 4096 := by omega
    have hm31 : m < 2147483647 := by omega
    have hcr := cntF_rng (hrP V) m
    have w3 : w32 (cntF (hrP V) m + 1) = cntF (hrP V) m + 1 := w32_id (by omega) (by omega)
    have w2 : w32 ((m : Int).tmod 2) = (m : Int) % 2 := by rw [Int.tmod_eq_emod_of_nonneg (by omega), w32_id (by omega) (by omega)]
    clear hcr
    have rest : ∀ H2, Vw V H2 → LaneS H2 (nY V) 2 (phG V) (fun _ => 0) m → H2 66 5 = cntF (hrP V) m → H2 66 6 = optI (fstF (hrP V) m) → R (d + 2) HV_partPayments (blk HV_partPayments 2) [va 66, va (V 4 0), va 42, vi (P : Int), vi m] [] H2 Q := by
      intro H2 hH g2 g3 g4
      have hcf := cnt_fst (p := hrP V) m
      have eg : cntF (hrP V) (m + 1) = cntF (hrP V) m + if hrP V m = true then 1 else 0 := rfl
      have ef : fstF (hrP V) (m + 1) = match fstF (hrP V) m with | some b => some b | none => if hrP V m = true then some m else none := rfl
      have hno : ¬ hrP V m = true → R (d + 2) HV_partPayments (blk HV_partPayments 1) [va 66, va (V 4 0), va 42, vi (P : Int), vi ((m + 1 : Nat) : Int)] [] H2 Q := by
        intro hp
        rw [if_neg hp, Int.add_zero] at eg
        have ef2 : fstF (hrP V) (m + 1) = fstF (hrP V) m := by
          rw [ef]; cases fstF (hrP V) m with
          | none => exact if_neg hp
          | some b => rfl
        exact ih H2 hH (by rw [Nat.add_sub_cancel]; exact g2) (by rw [eg]; exact g3) (by rw [ef2]; exact g4)
      have f := hH.f hI.ptr; have g := pl_f hH hI.pp hI.ptr; simp only [e_HV_partPayments_2, k_HV_partPayments_2, e_HV_partPayments_3, k_HV_partPayments_3, e_HV_partPayments_4, k_HV_partPayments_4, e_HV_partPayments_5, k_HV_partPayments_5, rr, sh, Nat.reduceLT, Nat.reduceMul, Int.reduceToNat, Int.reduceGT, Int.reduceGE, Int.reduceNe, true_and, and_true, true_or, or_true, false_or, or_false, and_self, or_self, if_true, if_false, reduceIte, not_true_eq_false, not_false_eq_true, Int.reduceEq, Int.reduceNe, Int.reduceLT, Int.reduceLE, Int.reduceAdd, Int.reduceSub, Int.reduceMul, Int.reduceNeg, Nat.reduceAdd, Nat.reduceLeDiff, Nat.reduceEqDiff, ne_eq, List.length_cons, List.length_nil, Nat.reduceSub, ite10_0, ite10_1, ite10_01, Classical.not_not, f, g, w2, mod2_c, part_e1 g2, part_e2 g2, g3, g4, c3_eq, w32_s hm31] <;> clear f g w2
      have hz3 : ∀ x : Int, hs H2 66 6 x 66 5 = cntF (hrP V) m := fun x => by rw [hs_app, if_neg (by decide)]; exact g3
      have hz : ∀ x : Int, optI (fstF (hrP V) (m + 1)) = x → hrP V m = true → R (d + 2) HV_partPayments (blk HV_partPayments 1) [va 66, va (V 4 0), va 42, vi (P : Int), vi ((m + 1 : Nat) : Int)] [] (hs (hs H2 66 6 x) 66 5 (cntF (hrP V) m + 1)) Q := fun x hx hp => by
        rw [if_pos hp] at eg
        exact ih _ ((hH.hs (c := 66) (j := 6) rfl).hs (c := 66) (j := 5) rfl) (by rw [Nat.add_sub_cancel]; exact (g2.hs (by decide) (by decide) (by decide)).hs (by decide) (by decide) (by decide)) (by rw [eg]; exact hs_same) (by rw [hx]; rfl)
      simp only [hz3, w3]
      by_cases hp : hrP V m = true
      · have hp2 := hp
        unfold hrP at hp2
        simp only [Bool.and_eq_true, decide_eq_true_eq] at hp2
        rw [if_neg (fun q => q hp2.1), if_neg (fun q => q hp2.2.1), if_neg (fun q => q hp2.2.2)]
        cases hf : fstF (hrP V) m with
        | none =>
          rw [hf] at hcf ef
          rw [if_neg (fun q => q (hcf.mpr rfl))]
          exact hz _ (by rw [ef, hp]; rfl) hp
        | some b =>
          rw [hf] at hcf ef
          rw [if_pos (fun q => by have := hcf.mp q; cases this)]
          exact hz _ (by rw [ef]) hp
      · have hn := hno hp
        unfold hrP at hp
        simp only [Bool.and_eq_true, decide_eq_true_eq] at hp
        by_cases p1 : m % 2 = 0
        · rw [if_neg (fun q => q p1)]
          by_cases p2 : apS V m false = 0
          · rw [if_neg (fun q => q p2)]
            by_cases p3 : apS V m true = 0
            · exact absurd ⟨p1, p2, p3⟩ hp
            · rw [if_pos p3]; exact hn
          · rw [if_pos p2]; exact hn
        · rw [if_pos p1]; exact hn
    rw [e_HV_partPayments_1]
    by_cases h0 : m = 0
    · subst h0
      have z0 : ((0 : Nat) : Int) ≤ 0 := Int.le_refl 0
      simp only [k_HV_partPayments_1, rr, sh, Nat.reduceLT, Nat.reduceMul, Int.reduceToNat, Int.reduceGT, Int.reduceGE, Int.reduceNe, true_and, and_true, true_or, or_true, false_or, or_false, and_self, or_self, if_true, if_false, reduceIte, not_true_eq_false, not_false_eq_true, Int.reduceEq, Int.reduceNe, Int.reduceLT, Int.reduceLE, Int.reduceAdd, Int.reduceSub, Int.reduceMul, Int.reduceNeg, Nat.reduceAdd, Nat.reduceLeDiff, Nat.reduceEqDiff, ne_eq, List.length_cons, List.length_nil, Nat.reduceSub, ite10_0, ite10_1, ite10_01, Classical.not_not, c1, z0]
      exact rest H' hH a2 a3 a4
    · have c2 := nat_le0 h0
      have f := hH.f hI.ptr; have g := pl_f hH hI.pp hI.ptr; simp only [k_HV_partPayments_1, rr, sh, Nat.reduceLT, Nat.reduceMul, Int.reduceToNat, Int.reduceGT, Int.reduceGE, Int.reduceNe, true_and, and_true, true_or, or_true, false_or, or_false, and_self, or_self, if_true, if_false, reduceIte, not_true_eq_false, not_false_eq_true, Int.reduceEq, Int.reduceNe, Int.reduceLT, Int.reduceLE, Int.reduceAdd, Int.reduceSub, Int.reduceMul, Int.reduceNeg, Nat.reduceAdd, Nat.reduceLeDiff, Nat.reduceEqDiff, ne_eq, List.length_cons, List.length_nil, Nat.reduceSub, ite10_0, ite10_1, ite10_01, Classical.not_not, f, g, c1, c2] <;> clear f g
      refine c_advance hI.ptr hH hy.2 h0 (by rw [hP]; exact hm) a2 fun H3 i1 i2 => ?_
      have e66 : H3 66 = H' 66 := i1.cell 66 (fun _ => rfl)
      exact rest H3 (hH.fx i1 sLN_scr) i2 (by rw [e66]; exact a3) (by rw [e66]; exact a4)
end HE
