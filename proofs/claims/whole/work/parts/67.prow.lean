/-! pairs: row -/
section PR
variable {d : Nat} {V H1 : Hp} {Q : AV → Hp → Prop}
theorem rwK_cg {V H : Hp} (h : Fx rwS V H) (e1 : H 71 47 = V 71 47) (e2 : H 71 48 = V 71 48) (e3 : H 71 57 = V 71 57) (k : Nat) : rwK H k = rwK V k := by
  have r := rs_cg h
  induction k with
  | zero => unfold rwK; rw [e2, e3]
  | succ k ih => simp only [rwK, r.1, r.2.1, r.2.2.1, e1, ih]
set_option maxRecDepth 20000 in
theorem c_rowC (hI : Inq V) (hA : ActR V) {n : Int} (hno : ¬ canGo V n → Q (vl (-1000000000000000)) (hs V 70 2 (w32 (V 70 2 + 1)))) (hQ : canGo V n → ∀ m : Nat, n = m → ∀ H', Fx s345 (ntH V 2 n (-1)) H' → H' 4 3 = V 71 47 + m → H' 4 4 = (rwK V m).2 → H' 4 5 = (rwK V m).1 → Q (vl (rwK V m).2) H') : CC (d + 5) EO_row [va 1, vi n] V Q := by
  have p1 : V 1 1 = 4 := hI.ptr (1, 1, 4) (by decide +kernel)
  by_cases h : canGo V n
  · have h' := h
    unfold canGo at h'
    obtain ⟨m, rfl⟩ := Int.eq_ofNat_of_zero_le (show 0 ≤ n from Int.le_trans (by decide) h'.1.1)
    simp only [en_EO_row, e_EO_row_0, k_EO_row_0, e_EO_row_1, k_EO_row_1, rr, sh, Nat.reduceLT, Nat.reduceMul, Int.reduceToNat, Int.reduceGT, Int.reduceGE, Int.reduceNe, true_and, and_true, true_or, or_true, false_or, or_false, and_self, or_self, if_true, if_false, reduceIte, not_true_eq_false, not_false_eq_true, Int.reduceEq, Int.reduceNe, Int.reduceLT, Int.reduceLE, Int.reduceAdd, Int.reduceSub, Int.reduceMul, Int.reduceNeg, Nat.reduceAdd, Nat.reduceLeDiff, Nat.reduceEqDiff, ne_eq, List.length_cons, List.length_nil, Nat.reduceSub, q_canGoBy hI Vw.rf, h', p1]
    refine c_rowOn hI hA (Int.ofNat_le.mp h'.1.2) h'.2 fun H2 f1 f2 f3 f4 => ?_
    have p2 : H2 1 1 = 4 := (f1 1 1 rfl).trans ((congrFun (nt_c (by decide)) 1).trans p1)
    simp only [rr, sh, Nat.reduceLT, Nat.reduceMul, Int.reduceToNat, Int.reduceGT, Int.reduceGE, Int.reduceNe, true_and, and_true, true_or, or_true, false_or, or_false, and_self, or_self, if_true, if_false, reduceIte, not_true_eq_false, not_false_eq_true, Int.reduceEq, Int.reduceNe, Int.reduceLT, Int.reduceLE, Int.reduceAdd, Int.reduceSub, Int.reduceMul, Int.reduceNeg, Nat.reduceAdd, Nat.reduceLeDiff, Nat.reduceEqDiff, ne_eq, List.length_cons, List.length_nil, Nat.reduceSub, p2, f3]
    exact hQ h m rfl H2 f1 f2 f3 f4
  · have h' := h
    unfold canGo at h'
    simp only [en_EO_row, e_EO_row_0, k_EO_row_0, rr, sh, Nat.reduceLT, Nat.reduceMul, Int.reduceToNat, Int.reduceGT, Int.reduceGE, Int.reduceNe, true_and, and_true, true_or, or_true, false_or, or_false, and_self, or_self, if_true, if_false, reduceIte, not_true_eq_false, not_false_eq_true, Int.reduceEq, Int.reduceNe, Int.reduceLT, Int.reduceLE, Int.reduceAdd, Int.reduceSub, Int.reduceMul, Int.reduceNeg, Nat.reduceAdd, Nat.reduceLeDiff, Nat.reduceEqDiff, ne_eq, List.length_cons, List.length_nil, Nat.reduceSub, q_canGoBy hI Vw.rf, h', q_refuse hI.ptr (Vw.rf (V := V)) (show (0 : Int) ≤ 2 ∧ (2 : Int) < 6 by decide)]
    exact hno h
def rwM (a b : Int) : Bool := if a = 108 then true else if a = 109 then true else if a = 110 then true else if a = 111 then true else if a = 71 then (decide (b = 47) || decide (b = 48) || decide (b = 55) || decide (b = 56) || decide (b = 57)) else false
set_option maxRecDepth 20000 in
theorem c_rowM (hM : Inm V) (hm : 0 ≤ V 71 56 ∧ V 71 56 < 30) (hc : 0 ≤ V 71 55 ∧ V 71 55 ≤ 30) {n : Int} (hno : ¬ canGo V n → Q (vl (-1000000000000000)) (hs V 73 2 (w32 (V 73 2 + 1)))) (hQ : canGo V n → ∀ m : Nat, n = m → ∀ H2 H', KeepR V H2 → Fx s478 H2 H' → H' 71 47 = V 71 47 + m → H' 71 48 = (rwK V m).2 → H' 71 57 = (rwK V m).1 → Q (vl (rwK V m).2) H') : CC (d + 3) MO_row [va 71, vi n] V Q := by
  have p9 : V 71 9 = 73 := hM.ptr (71, 9, 73) (by decide +kernel)
  by_cases h : canGo V n
  · have h' := h
    unfold canGo at h'
    obtain ⟨m, rfl⟩ := Int.eq_ofNat_of_zero_le (show 0 ≤ n from Int.le_trans (by decide) h'.1.1)
    simp only [en_MO_row, e_MO_row_0, k_MO_row_0, e_MO_row_1, k_MO_row_1, rr, sh, Nat.reduceLT, Nat.reduceMul, Int.reduceToNat, Int.reduceGT, Int.reduceGE, Int.reduceNe, true_and, and_true, true_or, or_true, false_or, or_false, and_self, or_self, if_true, if_false, reduceIte, not_true_eq_false, not_false_eq_true, Int.reduceEq, Int.reduceNe, Int.reduceLT, Int.reduceLE, Int.reduceAdd, Int.reduceSub, Int.reduceMul, Int.reduceNeg, Nat.reduceAdd, Nat.reduceLeDiff, Nat.reduceEqDiff, ne_eq, List.length_cons, List.length_nil, Nat.reduceSub, q_canGoM hM Vw.rf, h']
    refine c_keeps hM.ptr Vw.rf hm hc fun H2 hK => ?_
    have hst := hM.crew.stroke
    have z47 : H2 71 47 = V 71 47 := hK.1 71 47 rfl
    have z48 : H2 71 48 = V 71 48 := hK.1 71 48 rfl
    have z57 : H2 71 57 = V 71 57 := hK.1 71 57 rfl
    have hM2 : Inm H2 := by
      have hs : ptL.all (fun q => !sKP q.1 q.2.1) = true := by decide +kernel
      refine ⟨fun q hq => ?_, hM.boat.cg (fun a i1 i2 => hK.1.cell a (fun b => ?_)) (hK.1 71 46 rfl), hM.crew.cg (hK.1.cell 91 (fun _ => rfl)) (hK.1.cell 107 (fun _ => rfl)) z47 z48 (hK.1 71 49 rfl) z57 (hK.1.cell 96 (fun _ => rfl)) (hK.1.cell 97 (fun _ => rfl))⟩
      · have := List.all_eq_true.mp hs q hq
        rw [hK.1 q.1 q.2.1 (by simpa using this)]
        exact hM.ptr q hq
      · unfold sKP; rw [if_neg (by omega), if_neg (by omega), if_neg (by omega), if_neg (by omega), if_neg (by omega)]
    have hF2 : Fx rwS V H2 := hK.1.up sKP_rw
    have hr2 := rs_cg hF2
    have hkk := rwK_cg hF2 z47 z48 z57
    refine up_nat (P := fun k => ∀ H', Fx s478 H2 H' → H' 71 47 = V 71 47 + k → H' 71 48 = (rwK V k).2 → H' 71 57 = (rwK V k).1 → R (d + 3) MO_row (blk MO_row 2) [va 71, vi m, vi k] [] H' Q) ?_ ?_ 0 (Nat.zero_le m) _ Fx.rf ?_ ?_ ?_
    · intro H' b1 b2 b3 b4
      rw [e_MO_row_2]
      simp only [k_MO_row_2, e_MO_row_3, k_MO_row_3, rr, sh, Nat.reduceLT, Nat.reduceMul, Int.reduceToNat, Int.reduceGT, Int.reduceGE, Int.reduceNe, true_and, and_true, true_or, or_true, false_or, or_false, and_self, or_self, if_true, if_false, reduceIte, not_true_eq_false, not_false_eq_true, Int.reduceEq, Int.reduceNe, Int.reduceLT, Int.reduceLE, Int.reduceAdd, Int.reduceSub, Int.reduceMul, Int.reduceNeg, Nat.reduceAdd, Nat.reduceLeDiff, Nat.reduceEqDiff, ne_eq, List.length_cons, List.length_nil, Nat.reduceSub, Int.le_refl, b3]
      exact hQ h m rfl H2 H' hK b1 b2 b3 b4
    · intro k hk ih
      have c1 : ¬ (m : Int) ≤ k := by clear ih hQ hkk; omega
      have kw := w32_s (n := k) (by have := h'.1.2; clear ih hQ hkk; omega)
      have i1 : V 71 47 + k + 1 ≤ 9999 := by have := h'.2; clear ih hQ kw hkk; omega
      have i3 : 0 ≤ V 71 47 + k ∧ V 71 47 + k ≤ 9999 := by clear ih hQ kw hkk; omega
      have i2 : V 71 47 + k + 1 = V 71 47 + ((k + 1 : Nat) : Int) := by clear ih hQ kw hkk; omega
      intro H' b1 b2 b3 b4
      have hR := rwK_rng hM.crew k
      have hI2 : Inm H' := inm_478 hM2 b1 (by rw [b2]; exact i3) (by rw [b4]; exact hR.1) (by rw [b3]; exact hR.2)
      have hF3 : Fx rwS V H' := hF2.tr (b1.up s478_rw)
      have hr3 := rs_cg hF3
      rw [e_MO_row_2]
      simp only [k_MO_row_2, rr, sh, Nat.reduceLT, Nat.reduceMul, Int.reduceToNat, Int.reduceGT, Int.reduceGE, Int.reduceNe, true_and, and_true, true_or, or_true, false_or, or_false, and_self, or_self, if_true, if_false, reduceIte, not_true_eq_false, not_false_eq_true, Int.reduceEq, Int.reduceNe, Int.reduceLT, Int.reduceLE, Int.reduceAdd, Int.reduceSub, Int.reduceMul, Int.reduceNeg, Nat.reduceAdd, Nat.reduceLeDiff, Nat.reduceEqDiff, ne_eq, List.length_cons, List.length_nil, Nat.reduceSub, c1]
      refine c_rows (d := d) hI2 (t := V 71 47 + k + 1) (by rw [b2]) i1 b4 b3 fun H3 f1 f2 f3 f4 => ?_
      simp only [rr, sh, Nat.reduceLT, Nat.reduceMul, Int.reduceToNat, Int.reduceGT, Int.reduceGE, Int.reduceNe, true_and, and_true, true_or, or_true, false_or, or_false, and_self, or_self, if_true, if_false, reduceIte, not_true_eq_false, not_false_eq_true, Int.reduceEq, Int.reduceNe, Int.reduceLT, Int.reduceLE, Int.reduceAdd, Int.reduceSub, Int.reduceMul, Int.reduceNeg, Nat.reduceAdd, Nat.reduceLeDiff, Nat.reduceEqDiff, ne_eq, List.length_cons, List.length_nil, Nat.reduceSub, kw]
      refine ih H3 (b1.tr f1) (f2.trans i2) ?_ ?_
      · rw [f4, hr3.2.1, hr3.2.2.1]; rfl
      · rw [f3, hr3.1, hr3.2.2.1]; rfl
    · rw [z47]; exact (Int.add_zero _).symm
    · rw [z48]; rfl
    · rw [z57]; rfl
  · have h' := h
    unfold canGo at h'
    simp only [en_MO_row, e_MO_row_0, k_MO_row_0, rr, sh, Nat.reduceLT, Nat.reduceMul, Int.reduceToNat, Int.reduceGT, Int.reduceGE, Int.reduceNe, true_and, and_true, true_or, or_true, false_or, or_false, and_self, or_self, if_true, if_false, reduceIte, not_true_eq_false, not_false_eq_true, Int.reduceEq, Int.reduceNe, Int.reduceLT, Int.reduceLE, Int.reduceAdd, Int.reduceSub, Int.reduceMul, Int.reduceNeg, Nat.reduceAdd, Nat.reduceLeDiff, Nat.reduceEqDiff, ne_eq, List.length_cons, List.length_nil, Nat.reduceSub, q_canGoM hM Vw.rf, h', p9]
    exact hno h
theorem p_row (h : Inv0 V) {n : Int} : Pair V (d + 10) EO_row MO_row [va 1, vi n] [va 71, vi n] := by
  have hI := h.1
  have hA := h.2.2.2.2.2.1
  obtain ⟨hm, a1, a2, c, hc, hc30, -⟩ := id hA
  refine c_rowC (d := d + 5) hI hA (fun hg => ?_) (fun hg m hmn H1 h1 e3 e4 e5 => ?_)
  · have hv : Inq (hs V 70 2 (w32 (V 70 2 + 1))) := hI.vq (Vq.rf.hs (c := 70) (j := 2) rfl)
    have e71 : hs V 70 2 (w32 (V 70 2 + 1)) 71 = V 71 := hs_ne (by decide)
    have e73 : hs V 70 2 (w32 (V 70 2 + 1)) 73 = V 73 := hs_ne (by decide)
    have eg : canGo (hs V 70 2 (w32 (V 70 2 + 1))) n = canGo V n := by unfold canGo; rw [e71]
    refine c_rowM (d := d + 7) hv.m (by rw [e71]; exact hm) (by rw [e71, hc]; omega) (fun _ => ⟨rfl, ?_⟩) (fun q => absurd (by rw [eg] at q; exact q) hg)
    rw [e73]
    exact h.ref (i := 2) (by decide)
  · subst hmn
    have h1' : Fx clS (ntH V 2 m (-1)) H1 := h1.up s345_cl
    obtain ⟨hS1, hM1, e71, e107, e91, e94, g⟩ := act_mid h h1'
    have hF1 : Fx rwS V H1 := nt_rw.tr (h1.up s345_rw)
    have hkk := rwK_cg hF1 (by rw [e71]) (by rw [e71]) (by rw [e71])
    have eg : canGo H1 m = canGo V m := by unfold canGo; rw [e71]
    refine c_rowM (d := d + 7) hM1 (by rw [e71]; exact hm) (by rw [e71, hc]; omega) (fun q => absurd (by rw [eg]; exact hg) q) (fun _ m2 hm2 H2 H3 hK h3 f47 f48 f57 => ?_)
    obtain rfl : m = m2 := Int.ofNat_inj.mp hm2
    rw [hkk] at f48 f57 ⊢
    rw [e71] at f47
    refine ⟨rfl, ?_⟩
    have hcm := hI.crew
    have hR := rwK_rng hcm m
    have f49 : H3 71 49 = V 71 49 := ((h3 71 49 rfl).trans (hK.1 71 49 rfl)).trans (by rw [e71])
    have f107 : H3 107 = V 107 := ((h3.cell 107 (fun _ => rfl)).trans (hK.1.cell 107 (fun _ => rfl))).trans e107
    have n18 : H1 18 = V 18 := (h1.cell 18 (fun _ => rfl)).trans (nt_c (by decide))
    have n19 : H1 19 = V 19 := (h1.cell 19 (fun _ => rfl)).trans (nt_c (by decide))
    unfold canGo at hg
    have hst := hcm.stroke
    refine act_done h h1' hK (h3.up s478_fi) ?_ ⟨sdV V, ?_, hcm.sides.2⟩ ?_ ?_ ?_ ?_ ?_ ?_ ?_ ?_ ?_ ?_
    · rw [f47]; exact ⟨by have := hg.1.1; clear f48 f57 e4 e5; omega, hg.2⟩
    · rw [f49]; exact hcm.sides.1
    · rw [f107]; exact hcm.sits
    · rw [f107]; exact hcm.off
    · rw [f57]; exact hR.1
    · rw [f48]; exact hR.2
    · rw [f47, e3]
    · rw [f48, e4]
    · rw [f57, e5]
    · rw [f107, n18]; exact hI.cc.sits
    · intro q hq
      rw [f49, n19]
      exact hI.cc.right q hq
    · refine Or.inr (Or.inr ⟨rfl, ?_, f49.symm, fun q _ => by rw [f107]⟩)
      rw [f47]; exact (Int.add_sub_cancel _ _).symm
end PR
