/-! strengths: the pair -/
theorem TriR.of {V H : Hp} (h6 : nR V ≤ 6) (h : TrO V H) (e91 : H 91 = V 91) (e92 : H 92 = V 92) (e93 : H 93 = V 93) (e99 : H 99 = V 99) (e102 : H 102 = V 102) (e103 : H 103 = V 103) (e104 : H 104 = V 104) : TriR H := by
  right
  unfold TrO LstOk MstOk SolV cntV fitT totT aTr mnV sidV lvr pwV nS nR nU nN at h
  unfold nR nN at h6
  unfold LstOk MstOk SolV cntV fitT totT aTr mnV sidV lvr pwV nS nR nU nN
  rw [e91, e92, e93, e99, e102, e103, e104]
  exact ⟨h.1, h6, h.2.1, h.2.2⟩
theorem Inv0.tri {V H : Hp} (h : Inv0 V) (hS : Fx sTR V H) (h6 : nR V ≤ 6) (hT : TrO V H) : Inv0 H := by
  obtain ⟨h1, h2, h3, h4, h5, h6', h7, h8, h9, h10⟩ := h
  have hc : ∀ a : Int, (∀ b, sTR a b = false) → H a = V a := fun a q => hS.cell a q
  have c1 := hc 1 (fun _ => rfl)
  have c2 := hc 2 (fun _ => rfl)
  have c3 := hc 3 (fun _ => rfl)
  have c4 := hc 4 (fun _ => rfl)
  have c24 := hc 24 (fun _ => rfl)
  have c66 := hc 66 (fun _ => rfl)
  have c67 := hc 67 (fun _ => rfl)
  have c68 := hc 68 (fun _ => rfl)
  have c70 := hc 70 (fun _ => rfl)
  have c71 := hc 71 (fun _ => rfl)
  have c72 := hc 72 (fun _ => rfl)
  have c73 := hc 73 (fun _ => rfl)
  have c139 := hc 139 (fun _ => rfl)
  have ep : H (V 4 0 + 4) = V (V 4 0 + 4) := by rcases h1.pp with e | e <;> rw [e] <;> exact hc _ (fun _ => rfl)
  refine ⟨h1.vq (tr_vq hS), ?_, ?_, ?_, ?_, ?_, ?_, ?_, h9.cg (hc 91 (fun _ => rfl)) (hc 95 (fun _ => rfl)) (by rw [c4]) ep, TriR.of h6 hT (hc 91 (fun _ => rfl)) (hc 92 (fun _ => rfl)) (hc 93 (fun _ => rfl)) (hc 99 (fun _ => rfl)) (hc 102 (fun _ => rfl)) (hc 103 (fun _ => rfl)) (hc 104 (fun _ => rfl))⟩
  · unfold TapeR at h2 ⊢; simp only [c2, c3, c71, c72]; exact h2
  · unfold FltR at h3 ⊢; simp only [c1, c71]; exact h3
  · unfold RefR at h4 ⊢; simp only [c70, c73]; exact h4
  · unfold ImgR at h5 ⊢; simp only [c4, c24, c71, c139]; exact h5
  · exact h6'.eq (by rw [c4]) (by rw [c4]) (by rw [c71]) (by rw [c71]) (by rw [c71]) (by rw [c71]) (by rw [c71]) (hc 20 (fun _ => rfl)) (hc 21 (fun _ => rfl)) (hc 22 (fun _ => rfl)) (hc 23 (fun _ => rfl)) (hc 91 (fun _ => rfl)) (hc 94 (fun _ => rfl)) (hc 107 (fun _ => rfl)) (hc 108 (fun _ => rfl)) (hc 109 (fun _ => rfl)) (hc 110 (fun _ => rfl)) (hc 111 (fun _ => rfl))
  · unfold HvOk at h7 ⊢; simp only [c66, c67, c68]; exact h7
  · have hs : wdL.all (fun q => !sTR q.1 q.2.1) = true := by decide +kernel
    intro q hq
    have := List.all_eq_true.mp hs q hq
    rw [hS q.1 q.2.1 (by simpa using this)]
    exact h8 q hq
theorem q_isRowerM {d : Nat} {V H : Hp} {Q : AV → Hp → Prop} (hM : Inm V) (hH : Vw V H) {s : Int} : CC (d + 1) MO_isRower [va 71, vi s] H Q = Q (vi (if 0 ≤ s ∧ s < nR V then 1 else 0)) H := by
  have hn := hM.boat.r
  have w9 : w32 ((nR V : Int) - 1) = nR V - 1 := w32_id (by omega) (by omega)
  by_cases hr : 0 ≤ s ∧ s < (nR V : Int)
  · have hr' : 0 ≤ s ∧ s ≤ (nR V : Int) - 1 := by omega
    rw [if_pos hr]
    have f := hH.f hM.ptr; simp only [en_MO_isRower, e_MO_isRower_0, k_MO_isRower_0, en_MO_rowers, e_MO_rowers_0, k_MO_rowers_0, rr, sh, Nat.reduceLT, Nat.reduceMul, Int.reduceToNat, Int.reduceGT, Int.reduceGE, Int.reduceNe, true_and, and_true, true_or, or_true, false_or, or_false, and_self, or_self, if_true, if_false, reduceIte, not_true_eq_false, not_false_eq_true, Int.reduceEq, Int.reduceNe, Int.reduceLT, Int.reduceLE, Int.reduceAdd, Int.reduceSub, Int.reduceMul, Int.reduceNeg, Nat.reduceAdd, Nat.reduceLeDiff, Nat.reduceEqDiff, ne_eq, List.length_cons, List.length_nil, Nat.reduceSub, ite10_0, ite10_1, ite10_01, Classical.not_not, f, q_isIn, hn.1, w9, hr'] <;> clear f w9
  · have hr' : ¬ (0 ≤ s ∧ s ≤ (nR V : Int) - 1) := by omega
    rw [if_neg hr]
    have f := hH.f hM.ptr; simp only [en_MO_isRower, e_MO_isRower_0, k_MO_isRower_0, en_MO_rowers, e_MO_rowers_0, k_MO_rowers_0, rr, sh, Nat.reduceLT, Nat.reduceMul, Int.reduceToNat, Int.reduceGT, Int.reduceGE, Int.reduceNe, true_and, and_true, true_or, or_true, false_or, or_false, and_self, or_self, if_true, if_false, reduceIte, not_true_eq_false, not_false_eq_true, Int.reduceEq, Int.reduceNe, Int.reduceLT, Int.reduceLE, Int.reduceAdd, Int.reduceSub, Int.reduceMul, Int.reduceNeg, Nat.reduceAdd, Nat.reduceLeDiff, Nat.reduceEqDiff, ne_eq, List.length_cons, List.length_nil, Nat.reduceSub, ite10_0, ite10_1, ite10_01, Classical.not_not, f, q_isIn, hn.1, w9, hr'] <;> clear f w9
set_option maxRecDepth 20000 in
theorem c_strengthsM {d : Nat} {V H : Hp} {Q : AV → Hp → Prop} (hM : Inm V) (hH : Vw V H) {r w : Int} (hno : ¬ strOk V r w → ∀ H', Vw V H' → Q (vi (-1)) H') (hQ : strOk V r w → ∀ H' L G, Vw V H' → (cntV V ≠ 0 → LstOk V r.toNat L ∧ MstOk V r.toNat G) → Q (vi (strA V L G w)) H') : CC (d + 4) MO_strengths [va 71, vi r, vi w] H Q := by
  have hR := hM.boat.r
  have f : ∀ {H}, Vw V H → H 71 29 = 91 ∧ H 91 = V 91 ∧ H 71 68 = 117 ∧ H 71 69 = 118 := fun {H} h => ⟨(h 71 29 rfl).trans (hM.ptr (71, 29, 91) (by decide +kernel)), funext fun j => h 91 j rfl, (h 71 68 rfl).trans (hM.ptr (71, 68, 117) (by decide +kernel)), (h 71 69 rfl).trans (hM.ptr (71, 69, 118) (by decide +kernel))⟩
  by_cases a4 : 0 ≤ w ∧ w ≤ 2
  · by_cases a1 : nR V ≤ 6
    · have c1 : ¬ 6 < (nR V : Int) := Int.not_lt.mpr (Int.ofNat_le.mpr a1)
      by_cases a2 : 0 ≤ r ∧ r < nR V
      · have hok : strOk V r w := ⟨a1, a2, a4.1, a4.2⟩
        have hA := hQ hok
        obtain ⟨n, rfl⟩ := Int.eq_ofNat_of_zero_le a2.1
        have hn : n < nR V := Int.ofNat_lt.mp a2.2
        rw [Int.toNat_natCast] at hA
        have jn : 0 ≤ (n : Int) ∧ (n : Int) < 6 := ⟨Int.natCast_nonneg _, Int.ofNat_lt.mpr (Nat.lt_of_lt_of_le hn a1)⟩
        simp only [en_MO_strengths, e_MO_strengths_0, k_MO_strengths_0, e_MO_strengths_2, k_MO_strengths_2, en_MO_rowers, e_MO_rowers_0, k_MO_rowers_0, rr, sh, Nat.reduceLT, Nat.reduceMul, Int.reduceToNat, Int.reduceGT, Int.reduceGE, Int.reduceNe, true_and, and_true, true_or, or_true, false_or, or_false, and_self, or_self, if_true, if_false, reduceIte, not_true_eq_false, not_false_eq_true, Int.reduceEq, Int.reduceNe, Int.reduceLT, Int.reduceLE, Int.reduceAdd, Int.reduceSub, Int.reduceMul, Int.reduceNeg, Nat.reduceAdd, Nat.reduceLeDiff, Nat.reduceEqDiff, ne_eq, List.length_cons, List.length_nil, Nat.reduceSub, q_isIn, a4, (f hH).1, (f hH).2.1, hR.1, c1, q_isRowerM hM hH, a2]
        refine c_triesTold (d := d + 2) hM hH fun H1 g1 g2 => ?_
        try simp only [rr, sh, Nat.reduceLT, Nat.reduceMul, Int.reduceToNat, Int.reduceGT, Int.reduceGE, Int.reduceNe, true_and, and_true, true_or, or_true, false_or, or_false, and_self, or_self, if_true, if_false, reduceIte, not_true_eq_false, not_false_eq_true, Int.reduceEq, Int.reduceNe, Int.reduceLT, Int.reduceLE, Int.reduceAdd, Int.reduceSub, Int.reduceMul, Int.reduceNeg, Nat.reduceAdd, Nat.reduceLeDiff, Nat.reduceEqDiff, ne_eq, List.length_cons, List.length_nil, Nat.reduceSub]
        refine c_fitting (d := d) hM a1 g1 g2 fun H2 e1 e2 => ?_
        have hl : cntV V ≠ 0 → LstOk V n (H2 117 n) ∧ MstOk V n (H2 118 n) := fun hc => by
          obtain ⟨m1, m2⟩ := e2 hc n hn
          exact ⟨fun v => by rw [m1 v, lst_num hn], fun v => by rw [m2 v, mst_num hn]⟩
        have hB := hA H2 (H2 117 n) (H2 118 n) e1 hl
        unfold strA at hB
        by_cases w0 : w = 0
        · subst w0
          rw [if_pos rfl] at hB
          simp only [e_MO_strengths_6, k_MO_strengths_6, rr, sh, Nat.reduceLT, Nat.reduceMul, Int.reduceToNat, Int.reduceGT, Int.reduceGE, Int.reduceNe, true_and, and_true, true_or, or_true, false_or, or_false, and_self, or_self, if_true, if_false, reduceIte, not_true_eq_false, not_false_eq_true, Int.reduceEq, Int.reduceNe, Int.reduceLT, Int.reduceLE, Int.reduceAdd, Int.reduceSub, Int.reduceMul, Int.reduceNeg, Nat.reduceAdd, Nat.reduceLeDiff, Nat.reduceEqDiff, ne_eq, List.length_cons, List.length_nil, Nat.reduceSub]
          exact hB
        · rw [if_neg w0] at hB
          by_cases c0 : cntV V = 0
          · rw [if_pos c0] at hB
            simp only [e_MO_strengths_3, k_MO_strengths_3, e_MO_strengths_6, k_MO_strengths_6, rr, sh, Nat.reduceLT, Nat.reduceMul, Int.reduceToNat, Int.reduceGT, Int.reduceGE, Int.reduceNe, true_and, and_true, true_or, or_true, false_or, or_false, and_self, or_self, if_true, if_false, reduceIte, not_true_eq_false, not_false_eq_true, Int.reduceEq, Int.reduceNe, Int.reduceLT, Int.reduceLE, Int.reduceAdd, Int.reduceSub, Int.reduceMul, Int.reduceNeg, Nat.reduceAdd, Nat.reduceLeDiff, Nat.reduceEqDiff, ne_eq, List.length_cons, List.length_nil, Nat.reduceSub, w0, c0]
            exact hB
          · rw [if_neg c0] at hB
            by_cases w1 : w = 1
            · subst w1
              rw [if_pos rfl] at hB
              simp only [e_MO_strengths_3, k_MO_strengths_3, e_MO_strengths_4, k_MO_strengths_4, e_MO_strengths_6, k_MO_strengths_6, rr, sh, Nat.reduceLT, Nat.reduceMul, Int.reduceToNat, Int.reduceGT, Int.reduceGE, Int.reduceNe, true_and, and_true, true_or, or_true, false_or, or_false, and_self, or_self, if_true, if_false, reduceIte, not_true_eq_false, not_false_eq_true, Int.reduceEq, Int.reduceNe, Int.reduceLT, Int.reduceLE, Int.reduceAdd, Int.reduceSub, Int.reduceMul, Int.reduceNeg, Nat.reduceAdd, Nat.reduceLeDiff, Nat.reduceEqDiff, ne_eq, List.length_cons, List.length_nil, Nat.reduceSub, c0, (f e1).2.2.1, jn]
              exact hB
            · rw [if_neg w1] at hB
              simp only [e_MO_strengths_3, k_MO_strengths_3, e_MO_strengths_4, k_MO_strengths_4, e_MO_strengths_5, k_MO_strengths_5, e_MO_strengths_6, k_MO_strengths_6, rr, sh, Nat.reduceLT, Nat.reduceMul, Int.reduceToNat, Int.reduceGT, Int.reduceGE, Int.reduceNe, true_and, and_true, true_or, or_true, false_or, or_false, and_self, or_self, if_true, if_false, reduceIte, not_true_eq_false, not_false_eq_true, Int.reduceEq, Int.reduceNe, Int.reduceLT, Int.reduceLE, Int.reduceAdd, Int.reduceSub, Int.reduceMul, Int.reduceNeg, Nat.reduceAdd, Nat.reduceLeDiff, Nat.reduceEqDiff, ne_eq, List.length_cons, List.length_nil, Nat.reduceSub, w0, c0, w1, (f e1).2.2.2, jn]
              exact hB
      · simp only [en_MO_strengths, e_MO_strengths_0, k_MO_strengths_0, e_MO_strengths_1, k_MO_strengths_1, en_MO_rowers, e_MO_rowers_0, k_MO_rowers_0, rr, sh, Nat.reduceLT, Nat.reduceMul, Int.reduceToNat, Int.reduceGT, Int.reduceGE, Int.reduceNe, true_and, and_true, true_or, or_true, false_or, or_false, and_self, or_self, if_true, if_false, reduceIte, not_true_eq_false, not_false_eq_true, Int.reduceEq, Int.reduceNe, Int.reduceLT, Int.reduceLE, Int.reduceAdd, Int.reduceSub, Int.reduceMul, Int.reduceNeg, Nat.reduceAdd, Nat.reduceLeDiff, Nat.reduceEqDiff, ne_eq, List.length_cons, List.length_nil, Nat.reduceSub, q_isIn, a4, (f hH).1, (f hH).2.1, hR.1, c1, q_isRowerM hM hH, a2]
        exact hno (fun z => a2 z.2.1) H hH
    · have c1 : 6 < (nR V : Int) := Int.ofNat_lt.mpr (Nat.not_le.mp a1)
      simp only [en_MO_strengths, e_MO_strengths_0, k_MO_strengths_0, e_MO_strengths_1, k_MO_strengths_1, en_MO_rowers, e_MO_rowers_0, k_MO_rowers_0, rr, sh, Nat.reduceLT, Nat.reduceMul, Int.reduceToNat, Int.reduceGT, Int.reduceGE, Int.reduceNe, true_and, and_true, true_or, or_true, false_or, or_false, and_self, or_self, if_true, if_false, reduceIte, not_true_eq_false, not_false_eq_true, Int.reduceEq, Int.reduceNe, Int.reduceLT, Int.reduceLE, Int.reduceAdd, Int.reduceSub, Int.reduceMul, Int.reduceNeg, Nat.reduceAdd, Nat.reduceLeDiff, Nat.reduceEqDiff, ne_eq, List.length_cons, List.length_nil, Nat.reduceSub, q_isIn, a4, (f hH).1, (f hH).2.1, hR.1, c1]
      exact hno (fun z => a1 z.1) H hH
  · simp only [en_MO_strengths, e_MO_strengths_0, k_MO_strengths_0, e_MO_strengths_1, k_MO_strengths_1, rr, sh, Nat.reduceLT, Nat.reduceMul, Int.reduceToNat, Int.reduceGT, Int.reduceGE, Int.reduceNe, true_and, and_true, true_or, or_true, false_or, or_false, and_self, or_self, if_true, if_false, reduceIte, not_true_eq_false, not_false_eq_true, Int.reduceEq, Int.reduceNe, Int.reduceLT, Int.reduceLE, Int.reduceAdd, Int.reduceSub, Int.reduceMul, Int.reduceNeg, Nat.reduceAdd, Nat.reduceLeDiff, Nat.reduceEqDiff, ne_eq, List.length_cons, List.length_nil, Nat.reduceSub, q_isIn, a4]
    exact hno (fun z => a4 z.2.2) H hH
theorem p_strengths {d : Nat} {V : Hp} (h : Inv0 V) {r w : Int} : Pair V (d + 20) EO_strengths MO_strengths [va 1, vi r, vi w] [va 71, vi r, vi w] := by
  refine c_strengthsC (d := d) h.q h.2.2.2.2.2.2.2.2.2 (fun hg => ?_) (fun hg H1 g1 g2 => ?_)
  · exact c_strengthsM (d := d + 16) h.m Vw.rf (fun _ H2 e2 => ⟨rfl, h.vw e2⟩) (fun z => absurd z hg)
  · have h1 := h.tri g1 hg.1 g2
    have e91 : H1 91 = V 91 := g1.cell 91 (fun _ => rfl)
    have e92 : H1 92 = V 92 := g1.cell 92 (fun _ => rfl)
    have e93 : H1 93 = V 93 := g1.cell 93 (fun _ => rfl)
    have e99 : H1 99 = V 99 := g1.cell 99 (fun _ => rfl)
    have e102 : H1 102 = V 102 := g1.cell 102 (fun _ => rfl)
    have e103 : H1 103 = V 103 := g1.cell 103 (fun _ => rfl)
    have e104 : H1 104 = V 104 := g1.cell 104 (fun _ => rfl)
    have ec : cntV H1 = cntV V := by
      unfold cntV fitT totT aTr mnV sidV lvr pwV nS nR nU nN
      rw [e91, e92, e93, e99, e102, e103, e104]
    have eL : ∀ q L, LstOk H1 q L = LstOk V q L := fun q L => by
      unfold LstOk SolV fitT totT aTr mnV sidV lvr pwV nS nR nU nN
      rw [e91, e92, e93, e99, e102, e103, e104]
    have eG : ∀ q L, MstOk H1 q L = MstOk V q L := fun q L => by
      unfold MstOk SolV fitT totT aTr mnV sidV lvr pwV nS nR nU nN
      rw [e91, e92, e93, e99, e102, e103, e104]
    have eo : strOk H1 r w = strOk V r w := by unfold strOk nR nN; rw [e91]
    refine c_strengthsM (d := d + 16) h1.m Vw.rf (fun z => absurd (by rw [eo]; exact hg) z) (fun _ H2 L G e2 e3 => ⟨?_, h1.vw e2⟩)
    rw [ec, eL, eG] at e3
    obtain ⟨n, rfl⟩ := Int.eq_ofNat_of_zero_le hg.2.1.1
    rw [Int.toNat_natCast] at e3
    unfold strA
    rw [ec]
    by_cases c0 : cntV V = 0
    · rw [if_pos c0, if_pos c0]
    · obtain ⟨l1, l2⟩ := e3 c0
      obtain ⟨k1, k2⟩ := g2.2.2 c0 n (Int.ofNat_lt.mp hg.2.1.2)
      rw [lst_uq k1 l1, mst_uq k2 l2]
