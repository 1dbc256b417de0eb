/-! undo -/
def unC (a b : Int) : Bool := if a = 18 then true else if a = 19 then true else if a = 4 then (decide (b = 3) || decide (b = 4) || decide (b = 10) || decide (b = 11)) else false
def unM (a b : Int) : Bool := if a = 107 then true else if a = 71 then (decide (b = 47) || decide (b = 48) || decide (b = 49) || decide (b = 55) || decide (b = 56)) else false
def prv (m : Int) : Int := (m - 1) % 30
theorem prv_w {m : Int} (h : 0 ≤ m ∧ m < 30) : w32 ((w32 (w32 (m + 30) - 1)).tmod 30) = prv m ∧ 0 ≤ prv m ∧ prv m < 30 := by
  unfold prv
  rw [w32_id (x := m + 30) (by omega) (by omega), w32_id (x := m + 30 - 1) (by omega) (by omega), Int.tmod_eq_emod_of_nonneg (by omega), w32_id (by omega) (by omega)]
  omega
theorem prv_sl {m : Int} (h : 0 ≤ m ∧ m < 30) (i : Nat) : sl (prv m) i = sl m (i + 1) ∧ sl (prv m - 1) i = sl (m - 1) (i + 1) ∧ sl (m - 1) 0 = prv m ∧ sl m 0 = m := by
  unfold sl prv
  push_cast
  omega
section UN
variable {d : Nat} {V H : Hp} {Q : AV → Hp → Prop}
set_option maxRecDepth 20000 in
theorem c_undoC (h : Inv0 V) (hno : V 71 55 = 0 → Q (vi 0) (hs V 70 3 (w32 (V 70 3 + 1)))) (hQ : V 71 55 ≠ 0 → ∀ H', Fx unC V H' → H' 4 11 = V 71 55 - 1 → H' 4 10 = prv (V 71 56) → H' 4 3 = snK V 1 → H' 4 4 = snH V 1 → (∀ k : Nat, k < nS V → H' 18 k = snS V 1 k) → (∀ k : Nat, k < nS V → H' 19 k = if (snD V 1).toNat.testBit k then 1 else 0) → Q (vi 1) H') : CC (d + 5) EO_undo [va 1] V Q := by
  have hI := h.1
  obtain ⟨hm, a1, a2, c, hc, hc30, hact⟩ := h.2.2.2.2.2.1
  have p1 : V 1 1 = 4 := hI.ptr (1, 1, 4) (by decide +kernel)
  rw [← a2] at hc
  by_cases h0 : c = 0
  · have e0 : V 4 11 = 0 := by rw [hc, h0]; rfl
    simp only [en_EO_undo, e_EO_undo_0, k_EO_undo_0, e_EO_undo_1, k_EO_undo_1, e_EO_undo_2, k_EO_undo_2, e_EO_undo_3, k_EO_undo_3, en_CW_undoAct, e_CW_undoAct_0, k_CW_undoAct_0, e_CW_undoAct_1, k_CW_undoAct_1, e_CW_undoAct_2, k_CW_undoAct_2, e_CW_undoAct_3, k_CW_undoAct_3, e_CW_undoAct_4, k_CW_undoAct_4, e_CW_undoAct_5, k_CW_undoAct_5, rr, sh, Nat.reduceLT, Nat.reduceMul, Int.reduceToNat, Int.reduceGT, Int.reduceGE, Int.reduceNe, true_and, and_true, true_or, or_true, false_or, or_false, and_self, or_self, if_true, if_false, reduceIte, not_true_eq_false, not_false_eq_true, Int.reduceEq, Int.reduceNe, Int.reduceLT, Int.reduceLE, Int.reduceAdd, Int.reduceSub, Int.reduceMul, Int.reduceNeg, Nat.reduceAdd, Nat.reduceLeDiff, Nat.reduceEqDiff, ne_eq, List.length_cons, List.length_nil, Nat.reduceSub, p1, e0, q_refuse hI.ptr (Vw.rf (V := V)) (show (0 : Int) ≤ 3 ∧ (3 : Int) < 6 by decide)]
    exact hno (by rw [← a2]; exact e0)
  · have hne : ¬ V 4 11 = 0 := by rw [hc]; omega
    have hcc := hI.cc
    have hcm := hI.crew
    have hn := hI.boat.s
    have ac := (hact 0 (Nat.pos_of_ne_zero h0)).1
    have w11 : w32 (V 4 11 - 1) = V 4 11 - 1 := w32_id (by rw [hc]; omega) (by rw [hc]; omega)
    obtain ⟨w1, w2, w3⟩ := prv_w hm
    have j1 : 0 ≤ prv (V 71 56) ∧ prv (V 71 56) < 30 := ⟨w2, w3⟩
    have b10 : ∀ v, hs V 4 11 v 4 10 = V 71 56 := fun v => (hs2 (by decide)).trans a1
    have q6 : ∀ u w, hs (hs V 4 11 u) 4 10 w 4 6 = 20 := fun u w => ((hs2 (by decide)).trans (hs2 (by decide))).trans (hI.ptr (4, 6, 20) (by decide +kernel))
    have q7 : ∀ u w, hs (hs V 4 11 u) 4 10 w 4 7 = 21 := fun u w => ((hs2 (by decide)).trans (hs2 (by decide))).trans (hI.ptr (4, 7, 21) (by decide +kernel))
    have q8 : ∀ u w, hs (hs V 4 11 u) 4 10 w 4 8 = 22 := fun u w => ((hs2 (by decide)).trans (hs2 (by decide))).trans (hI.ptr (4, 8, 22) (by decide +kernel))
    have q20 : ∀ u w, hs (hs V 4 11 u) 4 10 w 20 = V 20 := fun u w => (hs_ne (by decide)).trans (hs_ne (by decide))
    have q21 : ∀ u w, hs (hs V 4 11 u) 4 10 w 21 = V 21 := fun u w => (hs_ne (by decide)).trans (hs_ne (by decide))
    have q22 : ∀ u w, hs (hs V 4 11 u) 4 10 w 22 = V 22 := fun u w => (hs_ne (by decide)).trans (hs_ne (by decide))
    have q43 : ∀ u w, hs (hs V 4 11 u) 4 10 w 4 3 = V 71 47 := fun u w => ((hs2 (by decide)).trans (hs2 (by decide))).trans hcc.stroke
    have u9 : ∀ u w x, hs (hs (hs V 4 11 u) 4 10 w) 4 3 x 4 9 = 23 := fun u w x => ((hs2 (by decide)).trans ((hs2 (by decide)).trans (hs2 (by decide)))).trans (hI.ptr (4, 9, 23) (by decide +kernel))
    have u10 : ∀ u w x, hs (hs (hs V 4 11 u) 4 10 w) 4 3 x 4 10 = w := fun u w x => (hs2 (by decide)).trans hs_same
    have u23 : ∀ u w x, hs (hs (hs V 4 11 u) 4 10 w) 4 3 x 23 = V 23 := fun u w x => ((hs_ne (by decide)).trans (hs_ne (by decide))).trans (hs_ne (by decide))
    have z1 := shp hI
    have hA : Fx unC V (hs (hs V 4 11 (V 4 11 - 1)) 4 10 (prv (V 71 56))) := (Fx.rf.hs (c := 4) (j := 11) rfl).hs (c := 4) (j := 10) rfl
    have g0 : hs (hs V 4 11 (V 4 11 - 1)) 4 10 (prv (V 71 56)) 4 0 = V 4 0 := (hs2 (by decide)).trans (hs2 (by decide))
    have g1 : hs (hs V 4 11 (V 4 11 - 1)) 4 10 (prv (V 71 56)) 4 1 = 18 := ((hs2 (by decide)).trans (hs2 (by decide))).trans (hI.ptr (4, 1, 18) (by decide +kernel))
    have g2 : hs (hs V 4 11 (V 4 11 - 1)) 4 10 (prv (V 71 56)) 4 2 = 19 := ((hs2 (by decide)).trans (hs2 (by decide))).trans (hI.ptr (4, 2, 19) (by decide +kernel))
    have g3 : hs (hs V 4 11 (V 4 11 - 1)) 4 10 (prv (V 71 56)) (V 4 0) 0 = nS V := by
      rw [hs_ne (by rcases hI.pp with e | e <;> rw [e] <;> decide), hs_ne (by rcases hI.pp with e | e <;> rw [e] <;> decide)]
      exact hI.plan.1
    have g18 : hs (hs V 4 11 (V 4 11 - 1)) 4 10 (prv (V 71 56)) 18 = V 18 := (hs_ne (by decide)).trans (hs_ne (by decide))
    have g19 : hs (hs V 4 11 (V 4 11 - 1)) 4 10 (prv (V 71 56)) 19 = V 19 := (hs_ne (by decide)).trans (hs_ne (by decide))
    have g43 : hs (hs V 4 11 (V 4 11 - 1)) 4 10 (prv (V 71 56)) 4 3 = V 71 47 := q43 _ _
    have g44 : hs (hs V 4 11 (V 4 11 - 1)) 4 10 (prv (V 71 56)) 4 4 = V 71 48 := ((hs2 (by decide)).trans (hs2 (by decide))).trans hcc.heading
    have g410 : hs (hs V 4 11 (V 4 11 - 1)) 4 10 (prv (V 71 56)) 4 10 = prv (V 71 56) := hs_same
    have g411 : hs (hs V 4 11 (V 4 11 - 1)) 4 10 (prv (V 71 56)) 4 11 = V 71 55 - 1 := by rw [hs2 (by decide), hs_same, a2]
    have hQ' := hQ (by rw [← a2]; exact hne)
    have psl := (prv_sl hm 0).2.2.1
    unfold ActI at ac
    rw [psl] at ac
    rcases ac with ⟨k0, ⟨s, k1, k2, k3, k4⟩, k5, k6, k7⟩ | ⟨k0, ⟨s, r, k1, k1', k2, k2', k3, k4⟩, k5, k6, k7⟩ | ⟨k0, k5, k6, k7, k8⟩
    · have hr : 0 ≤ (s : Int) ∧ (s : Int) < nS V := ⟨by omega, Int.ofNat_lt.mpr k2⟩
      have hx : hs (hs V 4 11 (V 4 11 - 1)) 4 10 (prv (V 71 56)) 19 s = 0 ∨ hs (hs V 4 11 (V 4 11 - 1)) 4 10 (prv (V 71 56)) 19 s = 1 := by
        rw [g19, hcc.right s k2]
        split
        · exact Or.inr rfl
        · exact Or.inl rfl
      simp only [en_EO_undo, e_EO_undo_0, k_EO_undo_0, e_EO_undo_1, k_EO_undo_1, e_EO_undo_2, k_EO_undo_2, e_EO_undo_3, k_EO_undo_3, en_CW_undoAct, e_CW_undoAct_0, k_CW_undoAct_0, e_CW_undoAct_1, k_CW_undoAct_1, e_CW_undoAct_2, k_CW_undoAct_2, e_CW_undoAct_3, k_CW_undoAct_3, e_CW_undoAct_4, k_CW_undoAct_4, e_CW_undoAct_5, k_CW_undoAct_5, rr, sh, Nat.reduceLT, Nat.reduceMul, Int.reduceToNat, Int.reduceGT, Int.reduceGE, Int.reduceNe, true_and, and_true, true_or, or_true, false_or, or_false, and_self, or_self, if_true, if_false, reduceIte, not_true_eq_false, not_false_eq_true, Int.reduceEq, Int.reduceNe, Int.reduceLT, Int.reduceLE, Int.reduceAdd, Int.reduceSub, Int.reduceMul, Int.reduceNeg, Nat.reduceAdd, Nat.reduceLeDiff, Nat.reduceEqDiff, ne_eq, List.length_cons, List.length_nil, Nat.reduceSub, p1, hne, w11, b10, w1, q6, q7, q20, q21, k0, k1, j1, hs_same, q_flip g0 g2 z1 g3 hr hx (Int.ofNat_le.mpr hn.2)]
      refine hQ' _ (hA.hs (c := 19) rfl) ?_ ?_ ?_ ?_ ?_ ?_
      · rw [hs_ne (by decide)]; exact g411
      · rw [hs_ne (by decide)]; exact g410
      · rw [hs_ne (by decide), g43]; exact k5.symm
      · rw [hs_ne (by decide), g44]; exact k6.symm
      · intro k hk
        rw [hs_ne (by decide), g18, hcc.sits k hk]
        exact (k7 k (Nat.lt_of_lt_of_le hk hn.2)).symm
      · intro q hq
        rw [hs_at, g19, k4, Int.toNat_natCast, Nat.testBit_xor, Nat.one_mul, Nat.testBit_two_pow, hcc.right q hq, hcc.right s k2]
        show _ = if ((sdV V).testBit q ^^ decide (s = q)) = true then (1 : Int) else 0
        by_cases hqk : q = s
        · subst hqk
          rw [if_pos rfl, decide_eq_true rfl]
          cases (sdV V).testBit q <;> rfl
        · rw [if_neg (fun z => hqk (Int.ofNat_inj.mp z)), decide_eq_false (fun z => hqk z.symm), Bool.xor_false]
    · have hr : 0 ≤ (s : Int) ∧ (s : Int) < nS V := ⟨by omega, Int.ofNat_lt.mpr k2⟩
      have hr2 : 0 ≤ (r : Int) ∧ (r : Int) < nS V := ⟨by omega, Int.ofNat_lt.mpr k2'⟩
      have hs12 : s < 12 := Nat.lt_of_lt_of_le k2 hn.2
      have hr12 : r < 12 := Nat.lt_of_lt_of_le k2' hn.2
      simp only [en_EO_undo, e_EO_undo_0, k_EO_undo_0, e_EO_undo_1, k_EO_undo_1, e_EO_undo_2, k_EO_undo_2, e_EO_undo_3, k_EO_undo_3, en_CW_undoAct, e_CW_undoAct_0, k_CW_undoAct_0, e_CW_undoAct_1, k_CW_undoAct_1, e_CW_undoAct_2, k_CW_undoAct_2, e_CW_undoAct_3, k_CW_undoAct_3, e_CW_undoAct_4, k_CW_undoAct_4, e_CW_undoAct_5, k_CW_undoAct_5, rr, sh, Nat.reduceLT, Nat.reduceMul, Int.reduceToNat, Int.reduceGT, Int.reduceGE, Int.reduceNe, true_and, and_true, true_or, or_true, false_or, or_false, and_self, or_self, if_true, if_false, reduceIte, not_true_eq_false, not_false_eq_true, Int.reduceEq, Int.reduceNe, Int.reduceLT, Int.reduceLE, Int.reduceAdd, Int.reduceSub, Int.reduceMul, Int.reduceNeg, Nat.reduceAdd, Nat.reduceLeDiff, Nat.reduceEqDiff, ne_eq, List.length_cons, List.length_nil, Nat.reduceSub, p1, hne, w11, b10, w1, q6, q7, q8, q20, q21, q22, k0, k1, k1', j1, hs_same, q_exchange g0 g1 z1 g3 hr hr2 (Int.ofNat_le.mpr hn.2)]
      refine hQ' _ ((hA.hs (c := 18) rfl).hs (c := 18) rfl) ?_ ?_ ?_ ?_ ?_ ?_
      · rw [hs_ne (by decide), hs_ne (by decide)]; exact g411
      · rw [hs_ne (by decide), hs_ne (by decide)]; exact g410
      · rw [hs_ne (by decide), hs_ne (by decide), g43]; exact k5.symm
      · rw [hs_ne (by decide), hs_ne (by decide), g44]; exact k6.symm
      · intro k hk
        rw [hs_at, hs_at, g18, hcc.sits k hk, hcc.sits s k2, hcc.sits r k2', k4 k (Nat.lt_of_lt_of_le hk hn.2)]
        show _ = if k = s then V 107 r else if k = r then V 107 s else V 107 k
        simp only [Int.ofNat_inj]
        by_cases z1 : k = s
        · subst z1
          rw [if_neg k3, if_pos rfl, if_pos rfl]
        · rw [if_neg z1, if_neg z1]
      · intro q hq
        rw [hs_ne (by decide), hs_ne (by decide), g19, k7]
        exact hcc.right q hq
    · have k5' : V 71 47 - V 21 (prv (V 71 56)) = snK V 1 := k5.symm
      have hok := (hact 0 (Nat.pos_of_ne_zero h0)).2.1
      have w3' : w32 (V 71 47 - V 21 (prv (V 71 56))) = snK V 1 := by rw [k5']; exact w32_id (Int.le_trans (by decide) hok.1) (Int.lt_of_le_of_lt hok.2 (by decide))
      simp only [en_EO_undo, e_EO_undo_0, k_EO_undo_0, e_EO_undo_1, k_EO_undo_1, e_EO_undo_2, k_EO_undo_2, e_EO_undo_3, k_EO_undo_3, en_CW_undoAct, e_CW_undoAct_0, k_CW_undoAct_0, e_CW_undoAct_1, k_CW_undoAct_1, e_CW_undoAct_2, k_CW_undoAct_2, e_CW_undoAct_3, k_CW_undoAct_3, e_CW_undoAct_4, k_CW_undoAct_4, e_CW_undoAct_5, k_CW_undoAct_5, rr, sh, Nat.reduceLT, Nat.reduceMul, Int.reduceToNat, Int.reduceGT, Int.reduceGE, Int.reduceNe, true_and, and_true, true_or, or_true, false_or, or_false, and_self, or_self, if_true, if_false, reduceIte, not_true_eq_false, not_false_eq_true, Int.reduceEq, Int.reduceNe, Int.reduceLT, Int.reduceLE, Int.reduceAdd, Int.reduceSub, Int.reduceMul, Int.reduceNeg, Nat.reduceAdd, Nat.reduceLeDiff, Nat.reduceEqDiff, ne_eq, List.length_cons, List.length_nil, Nat.reduceSub, p1, hne, w11, b10, w1, q6, q7, q20, q21, q43, k0, j1, hs_same, w3', u9, u10, u23]
      refine hQ' _ ((hA.hs (c := 4) (j := 3) rfl).hs (c := 4) (j := 4) rfl) ?_ ?_ ?_ ?_ ?_ ?_
      · rw [hs2 (by decide), hs2 (by decide)]; exact g411
      · rw [hs2 (by decide), hs2 (by decide)]; exact g410
      · rw [hs2 (by decide)]; exact hs_same
      · rw [hs_same]; exact k6.symm
      · intro k hk
        rw [hs_ne (by decide), hs_ne (by decide), g18, hcc.sits k hk]
        exact (k8 k (Nat.lt_of_lt_of_le hk hn.2)).symm
      · intro q hq
        rw [hs_ne (by decide), hs_ne (by decide), g19, k7]
        exact hcc.right q hq
set_option maxRecDepth 20000 in
theorem c_undoM (hM : Inm V) (hm : 0 ≤ V 71 56 ∧ V 71 56 < 30) (hc : 0 ≤ V 71 55 ∧ V 71 55 ≤ 30) (hno : V 71 55 = 0 → Q (vi 0) (hs V 73 3 (w32 (V 73 3 + 1)))) (hQ : V 71 55 ≠ 0 → ∀ H', Fx unM V H' → H' 71 55 = V 71 55 - 1 → H' 71 56 = prv (V 71 56) → H' 71 47 = snK V 1 → H' 71 48 = snH V 1 → H' 71 49 = snD V 1 → (∀ k : Nat, k < 12 → H' 107 k = snS V 1 k) → Q (vi 1) H') : CC d MO_undo [va 71] V Q := by
  have p9 : V 71 9 = 73 := hM.ptr (71, 9, 73) (by decide +kernel)
  by_cases h0 : V 71 55 = 0
  · simp only [en_MO_undo, e_MO_undo_0, k_MO_undo_0, rr, sh, Nat.reduceLT, Nat.reduceMul, Int.reduceToNat, Int.reduceGT, Int.reduceGE, Int.reduceNe, true_and, and_true, true_or, or_true, false_or, or_false, and_self, or_self, if_true, if_false, reduceIte, not_true_eq_false, not_false_eq_true, Int.reduceEq, Int.reduceNe, Int.reduceLT, Int.reduceLE, Int.reduceAdd, Int.reduceSub, Int.reduceMul, Int.reduceNeg, Nat.reduceAdd, Nat.reduceLeDiff, Nat.reduceEqDiff, ne_eq, List.length_cons, List.length_nil, Nat.reduceSub, h0, p9]
    exact hno h0
  · have hQ' := hQ h0
    have p51 : V 71 51 = 108 := hM.ptr (71, 51, 108) (by decide +kernel)
    have p52 : ∀ v, hs V 71 47 v 71 52 = 109 := fun v => (hs2 (by decide)).trans (hM.ptr (71, 52, 109) (by decide +kernel))
    have z56 : ∀ v, hs V 71 47 v 71 56 = V 71 56 := fun v => hs2 (by decide)
    have c109 : ∀ v, hs V 71 47 v 109 = V 109 := fun v => hs_ne (by decide)
    have p53 : ∀ v w, hs (hs V 71 47 v) 71 48 w 71 53 = 110 := fun v w => ((hs2 (by decide)).trans (hs2 (by decide))).trans (hM.ptr (71, 53, 110) (by decide +kernel))
    have y56 : ∀ v w, hs (hs V 71 47 v) 71 48 w 71 56 = V 71 56 := fun v w => (hs2 (by decide)).trans (hs2 (by decide))
    have c110 : ∀ v w, hs (hs V 71 47 v) 71 48 w 110 = V 110 := fun v w => (hs_ne (by decide)).trans (hs_ne (by decide))
    have e0 : ∀ m : Int, 0 ≤ m ∧ m < 30 → sl m 0 = m := fun m h => (prv_sl h 0).2.2.2
    have eK : snK V 1 = V 108 (V 71 56) := by show V 108 (sl (V 71 56) 0) = _; rw [e0 _ hm]
    have eH : snH V 1 = V 109 (V 71 56) := by show V 109 (sl (V 71 56) 0) = _; rw [e0 _ hm]
    have eD : snD V 1 = V 110 (V 71 56) := by show V 110 (sl (V 71 56) 0) = _; rw [e0 _ hm]
    have eS : ∀ k : Nat, snS V 1 k = V 111 (12 * V 71 56 + k) := fun k => by show V 111 (12 * sl (V 71 56) 0 + k) = _; rw [e0 _ hm]
    obtain ⟨w1, w2, w3⟩ := prv_w hm
    simp only [en_MO_undo, e_MO_undo_0, k_MO_undo_0, e_MO_undo_1, k_MO_undo_1, rr, sh, Nat.reduceLT, Nat.reduceMul, Int.reduceToNat, Int.reduceGT, Int.reduceGE, Int.reduceNe, true_and, and_true, true_or, or_true, false_or, or_false, and_self, or_self, if_true, if_false, reduceIte, not_true_eq_false, not_false_eq_true, Int.reduceEq, Int.reduceNe, Int.reduceLT, Int.reduceLE, Int.reduceAdd, Int.reduceSub, Int.reduceMul, Int.reduceNeg, Nat.reduceAdd, Nat.reduceLeDiff, Nat.reduceEqDiff, ne_eq, List.length_cons, List.length_nil, Nat.reduceSub, h0, p51, p52, p53, z56, y56, c109, c110, hm]
    refine up_nat (P := fun k => ∀ H', Fx unM V H' → H' 71 55 = V 71 55 → H' 71 56 = V 71 56 → H' 71 47 = snK V 1 → H' 71 48 = snH V 1 → H' 71 49 = snD V 1 → (∀ q : Nat, q < k → H' 107 q = snS V 1 q) → R d MO_undo (blk MO_undo 2) [va 71, vi k] [] H' Q) ?_ ?_ 0 (Nat.zero_le 12) _ (((Fx.rf.hs (c := 71) (j := 47) rfl).hs (c := 71) (j := 48) rfl).hs (c := 71) (j := 49) rfl) ?_ ?_ ?_ ?_ ?_ (fun q hq => absurd hq (Nat.not_lt_zero q))
    · intro H' b1 b2 b3 b4 b5 b6 b7
      have w4 : w32 (V 71 55 - 1) = V 71 55 - 1 := w32_id (by clear b2 b3 b4 b5 b6 b7 w1 hQ' hQ hno; omega) (by clear b2 b3 b4 b5 b6 b7 w1 hQ' hQ hno; omega)
      have y55 : ∀ v, hs H' 71 56 v 71 55 = V 71 55 := fun v => (hs2 (by decide)).trans b2
      rw [e_MO_undo_2]
      simp only [k_MO_undo_2, e_MO_undo_3, k_MO_undo_3, rr, sh, Nat.reduceLT, Nat.reduceMul, Int.reduceToNat, Int.reduceGT, Int.reduceGE, Int.reduceNe, true_and, and_true, true_or, or_true, false_or, or_false, and_self, or_self, if_true, if_false, reduceIte, not_true_eq_false, not_false_eq_true, Int.reduceEq, Int.reduceNe, Int.reduceLT, Int.reduceLE, Int.reduceAdd, Int.reduceSub, Int.reduceMul, Int.reduceNeg, Nat.reduceAdd, Nat.reduceLeDiff, Nat.reduceEqDiff, ne_eq, List.length_cons, List.length_nil, Nat.reduceSub, Int.le_refl, b3, w1, y55, w4]
      refine hQ' _ ((b1.hs (c := 71) (j := 56) rfl).hs (c := 71) (j := 55) rfl) hs_same ?_ ?_ ?_ ?_ (fun k hk => ?_)
      · rw [hs2 (by decide)]; exact hs_same
      · rw [hs2 (by decide), hs2 (by decide)]; exact b4
      · rw [hs2 (by decide), hs2 (by decide)]; exact b5
      · rw [hs2 (by decide), hs2 (by decide)]; exact b6
      · rw [hs_ne (by decide), hs_ne (by decide)]; exact b7 k hk
    · intro k hk ih
      have c1 : ¬ (12 : Int) ≤ k := by clear ih hQ' hQ hno w1; omega
      have j1 : 0 ≤ (k : Int) ∧ (k : Int) < 12 := by clear ih hQ' hQ hno w1; omega
      have kw := w32_s (n := k) (by clear ih hQ' hQ hno w1; omega)
      obtain ⟨i1, i2⟩ := kp_ix hm.1 hm.2 hk
      intro H' b1 b2 b3 b4 b5 b6 b7
      have p50 : H' 71 50 = 107 := (b1 71 50 rfl).trans (hM.ptr (71, 50, 107) (by decide +kernel))
      have p54 : H' 71 54 = 111 := (b1 71 54 rfl).trans (hM.ptr (71, 54, 111) (by decide +kernel))
      have c111 : H' 111 = V 111 := b1.cell 111 (fun _ => rfl)
      rw [e_MO_undo_2]
      simp only [k_MO_undo_2, rr, sh, Nat.reduceLT, Nat.reduceMul, Int.reduceToNat, Int.reduceGT, Int.reduceGE, Int.reduceNe, true_and, and_true, true_or, or_true, false_or, or_false, and_self, or_self, if_true, if_false, reduceIte, not_true_eq_false, not_false_eq_true, Int.reduceEq, Int.reduceNe, Int.reduceLT, Int.reduceLE, Int.reduceAdd, Int.reduceSub, Int.reduceMul, Int.reduceNeg, Nat.reduceAdd, Nat.reduceLeDiff, Nat.reduceEqDiff, ne_eq, List.length_cons, List.length_nil, Nat.reduceSub, c1, p50, p54, b3, i1, i2, c111, j1, kw]
      refine ih _ (b1.hs (c := 107) rfl) ?_ ?_ ?_ ?_ ?_ (fun q hq => ?_)
      · rw [hs_ne (by decide)]; exact b2
      · rw [hs_ne (by decide)]; exact b3
      · rw [hs_ne (by decide)]; exact b4
      · rw [hs_ne (by decide)]; exact b5
      · rw [hs_ne (by decide)]; exact b6
      · rw [hs_at]
        by_cases hqk : q = k
        · subst hqk; rw [if_pos rfl, eS]
        · rw [if_neg (fun z => hqk (Int.ofNat_inj.mp z))]
          exact b7 q (Nat.lt_of_le_of_ne (Nat.le_of_lt_succ hq) hqk)
    · rw [hs2 (by decide), hs2 (by decide), hs2 (by decide)]
    · rw [hs2 (by decide), hs2 (by decide), hs2 (by decide)]
    · rw [hs2 (by decide), hs2 (by decide), hs_same, eK]
    · rw [hs2 (by decide), hs_same, eH]
    · rw [hs_same, eD]
end UN
