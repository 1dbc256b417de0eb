/-! runs: which does not fit -/
def mnV (V : Hp) : Nat := min (nS V) (nR V)
def pwV (V : Hp) (r : Nat) : Nat := (V 103 (8 + r)).toNat
def sidV (V : Hp) (r k : Nat) : Int := if V 102 (96 + 12 * r + k) = 2 then 1 else if V 102 (96 + 12 * r + k) = 1 then -1 else 0
/-- a run's swing by strengths s and arms a -/
def fitW (V : Hp) (s a : Nat → Int) (r k : Nat) : Int := sidV V r k * (s k * a k * V 92 (12 + k) ^ pwV V r)
def fitG (V : Hp) (s a : Nat → Int) (r : Nat) : Int := w64 (sumI (fitW V s a r) (mnV V) - V 104 (8 + r))
def fitB (V : Hp) (s a : Nat → Int) (r : Nat) : Bool := decide (abL (fitG V s a r) ≤ V 99 1)
def unfO (V : Hp) (s a : Nat → Int) : Option Nat := fstF (fun r => !fitB V s a r) (nU V)
def tsV (V : Hp) (k : Nat) : Int := V 96 (12 + k)
def taV (V : Hp) (k : Nat) : Int := V 93 (12 + k)
def fitsS (V : Hp) : Int := optI (unfO V (tsV V) (taV V))
section FT
variable {d : Nat} {V H : Hp} {Q : AV → Hp → Prop}
theorem pw_lt (hM : Inm V) {r : Nat} (hr : r < nU V) : V 103 (8 + r) = pwV V r ∧ pwV V r < 4 := by
  have := hM.boat.rpow r hr
  unfold pwV
  omega
set_option maxRecDepth 20000 in
theorem q_seatedFirst (hI : Inq V) (hH : Vw V H) : CC (d + 1) PL_seatedAtFirst [va (V 4 0)] H Q = Q (vi (mnV V)) H := by
  refine CC_dt fun Q hQ => ?_
  have h1 := hI.plan.seats
  have h2 := hI.plan.rowers
  have z1 := shp hI
  have e1 : min (nS V : Int) (nR V) = (mnV V : Nat) := by unfold mnV; omega
  have f := hH.f hI.ptr; have g := pl_f hH hI.pp hI.ptr; simp only [en_PL_seatedAtFirst, e_PL_seatedAtFirst_0, k_PL_seatedAtFirst_0, rr, sh, Nat.reduceLT, Nat.reduceMul, Int.reduceToNat, Int.reduceGT, Int.reduceGE, Int.reduceNe, true_and, and_true, true_or, or_true, false_or, or_false, and_self, or_self, if_true, if_false, reduceIte, not_true_eq_false, not_false_eq_true, Int.reduceEq, Int.reduceNe, Int.reduceLT, Int.reduceLE, Int.reduceAdd, Int.reduceSub, Int.reduceMul, Int.reduceNeg, Nat.reduceAdd, Nat.reduceLeDiff, Nat.reduceEqDiff, ne_eq, List.length_cons, List.length_nil, Nat.reduceSub, ite10_0, ite10_1, ite10_01, Classical.not_not, f, g, z1, h1, h2, q_minI, e1] <;> clear f g e1
  exact hQ
set_option maxRecDepth 20000 in
theorem q_runLever (hI : Inq V) (hH : Vw V H) {r k : Nat} (hr : r < nU V) (hk : k < mnV V) : CC (d + 2) PL_runLever [va (V 4 0), vi r, vi k] H Q = Q (vl (w64 (sidV V r k * lvr V (pwV V r) k))) H := by
  refine CC_dt fun Q hQ => ?_
  have hu := hI.boat.u
  have hn := hI.boat.s
  have h1 := hI.plan.runs
  have hks : k < nS V := by unfold mnV at hk; omega
  have hk12 : k < 12 := by omega
  obtain ⟨p1, p2⟩ := pw_lt hI.m hr
  have e1 := hI.plan.side r k hr hk12
  have e2 := hI.plan.rpow r hr
  rw [p1] at e2
  have c1 : ¬ (r : Int) < 0 := by clear e1 e2 p1; omega
  have c2 : ¬ (nU V : Int) ≤ r := by clear e1 e2 p1; omega
  have c3 : ¬ (k : Int) < 0 := by clear e1 e2 p1; omega
  have c4 : (k : Int) < mnV V := by clear e1 e2 p1; omega
  have j1 : 0 ≤ 12 * (r : Int) + k ∧ 12 * (r : Int) + k < 96 := by clear e1 e2 p1; omega
  have j2 : 0 ≤ (r : Int) ∧ (r : Int) < 8 := by clear e1 e2 p1; omega
  have w1 : w32 (w32 ((r : Int) * 12) + k) = 12 * (r : Int) + k := by clear e1 e2 p1 j1 j2; rw [w32_id (x := (r : Int) * 12) (by omega) (by omega), w32_id (by omega) (by omega)]; omega
  have z1 := shp hI
  have f := hH.f hI.ptr; have g := pl_f hH hI.pp hI.ptr; simp only [en_PL_runLever, e_PL_runLever_0, k_PL_runLever_0, e_PL_runLever_1, k_PL_runLever_1, e_PL_runLever_2, k_PL_runLever_2, rr, sh, Nat.reduceLT, Nat.reduceMul, Int.reduceToNat, Int.reduceGT, Int.reduceGE, Int.reduceNe, true_and, and_true, true_or, or_true, false_or, or_false, and_self, or_self, if_true, if_false, reduceIte, not_true_eq_false, not_false_eq_true, Int.reduceEq, Int.reduceNe, Int.reduceLT, Int.reduceLE, Int.reduceAdd, Int.reduceSub, Int.reduceMul, Int.reduceNeg, Nat.reduceAdd, Nat.reduceLeDiff, Nat.reduceEqDiff, ne_eq, List.length_cons, List.length_nil, Nat.reduceSub, ite10_0, ite10_1, ite10_01, Classical.not_not, f, g, z1, h1, c1, c2, c3, c4, q_seatedFirst hI hH, w1, e1, e2, j1, j2, q_leverOf hI hH p2 hks] <;> clear f g w1 e1 e2
  exact hQ
theorem fit_mul {a b c s : Int} : s * (b * c) * a = s * (a * b * c) := by rw [Int.mul_assoc, Int.mul_comm (b * c) a, Int.mul_assoc a b c]
set_option maxRecDepth 20000 in
theorem q_gapAsTold (hI : Inq V) (hH : Vw V H) {r : Nat} (hr : r < nU V) : CC (d + 3) TR_gapAsTold [va (V 4 0), vi r] H Q = Q (vl (fitG V (tsV V) (taV V) r)) H := by
  refine CC_dt fun Q hQ => ?_
  have hu := hI.boat.u
  have hn := hI.boat.s
  have hn2 := hI.boat.r
  have h1 := hI.plan.runs
  have hmn : mnV V ≤ nR V ∧ mnV V ≤ 12 := by unfold mnV; omega
  have c1 : ¬ (r : Int) < 0 := by omega
  have c2 : ¬ (nU V : Int) ≤ r := by omega
  have j2 : 0 ≤ (r : Int) ∧ (r : Int) < 8 := by omega
  have hkk : ∀ k : Nat, k < mnV V → (¬ (mnV V : Int) ≤ k) ∧ (0 ≤ (k : Int) ∧ (k : Int) < 12) ∧ k < 2147483647 ∧ k < nR V := fun k hk => ⟨by omega, by omega, by omega, by omega⟩
  have e2 := hI.plan.rsw r hr
  have z1 := shp hI
  have f := hH.f hI.ptr; have g := pl_f hH hI.pp hI.ptr; simp only [en_TR_gapAsTold, e_TR_gapAsTold_0, k_TR_gapAsTold_0, en_PL_swungOf, e_PL_swungOf_0, k_PL_swungOf_0, e_PL_swungOf_1, k_PL_swungOf_1, e_PL_swungOf_2, k_PL_swungOf_2, rr, sh, Nat.reduceLT, Nat.reduceMul, Int.reduceToNat, Int.reduceGT, Int.reduceGE, Int.reduceNe, true_and, and_true, true_or, or_true, false_or, or_false, and_self, or_self, if_true, if_false, reduceIte, not_true_eq_false, not_false_eq_true, Int.reduceEq, Int.reduceNe, Int.reduceLT, Int.reduceLE, Int.reduceAdd, Int.reduceSub, Int.reduceMul, Int.reduceNeg, Nat.reduceAdd, Nat.reduceLeDiff, Nat.reduceEqDiff, ne_eq, List.length_cons, List.length_nil, Nat.reduceSub, ite10_0, ite10_1, ite10_01, Classical.not_not, f, g, z1, h1, c1, c2, j2, e2] <;> clear f g e2
  refine R_cg (up_nat (P := fun k => R (d + 3) TR_gapAsTold (blk TR_gapAsTold 1) [va (V 4 0), vi r, vl (w64 (sumI (fitW V (tsV V) (taV V) r) k - V 104 (8 + r))), vu, vi k] [] H Q) ?_ ?_ 0 (Nat.zero_le (mnV V))) (by show _ = [_, _, vl (w64 (0 - V 104 (8 + r))), _, _]; rw [Int.zero_sub]; rfl) rfl
  · rw [e_TR_gapAsTold_1]
    have f := hH.f hI.ptr; have g := pl_f hH hI.pp hI.ptr; simp only [k_TR_gapAsTold_1, e_TR_gapAsTold_2, k_TR_gapAsTold_2, rr, sh, Nat.reduceLT, Nat.reduceMul, Int.reduceToNat, Int.reduceGT, Int.reduceGE, Int.reduceNe, true_and, and_true, true_or, or_true, false_or, or_false, and_self, or_self, if_true, if_false, reduceIte, not_true_eq_false, not_false_eq_true, Int.reduceEq, Int.reduceNe, Int.reduceLT, Int.reduceLE, Int.reduceAdd, Int.reduceSub, Int.reduceMul, Int.reduceNeg, Nat.reduceAdd, Nat.reduceLeDiff, Nat.reduceEqDiff, ne_eq, List.length_cons, List.length_nil, Nat.reduceSub, ite10_0, ite10_1, ite10_01, Classical.not_not, f, g, z1, q_seatedFirst hI hH, Int.le_refl] <;> clear f g
    exact hQ
  · intro k hk ih
    obtain ⟨c3, j3, j4, j5⟩ := hkk k hk
    have e3 := hI.plan.str k j5
    have ea : w64 (w64 (sumI (fitW V (tsV V) (taV V) r) k - V 104 (8 + r)) + w64 (w64 (sidV V r k * lvr V (pwV V r) k) * V 96 (12 + k))) = w64 (sumI (fitW V (tsV V) (taV V) r) (k + 1) - V 104 (8 + r)) := by
      rw [w64_ml, w64_ar, w64_al]
      show _ = w64 (sumI (fitW V (tsV V) (taV V) r) k + fitW V (tsV V) (taV V) r k - V 104 (8 + r))
      unfold lvr
      rw [fit_mul]
      show w64 (_ + fitW V (tsV V) (taV V) r k) = _
      congr 1
      generalize sumI (fitW V (tsV V) (taV V) r) k = A
      generalize fitW V (tsV V) (taV V) r k = B
      omega
    rw [← ea] at ih
    clear ea hQ
    rw [e_TR_gapAsTold_1]
    have f := hH.f hI.ptr; have g := pl_f hH hI.pp hI.ptr; simp only [k_TR_gapAsTold_1, rr, sh, Nat.reduceLT, Nat.reduceMul, Int.reduceToNat, Int.reduceGT, Int.reduceGE, Int.reduceNe, true_and, and_true, true_or, or_true, false_or, or_false, and_self, or_self, if_true, if_false, reduceIte, not_true_eq_false, not_false_eq_true, Int.reduceEq, Int.reduceNe, Int.reduceLT, Int.reduceLE, Int.reduceAdd, Int.reduceSub, Int.reduceMul, Int.reduceNeg, Nat.reduceAdd, Nat.reduceLeDiff, Nat.reduceEqDiff, ne_eq, List.length_cons, List.length_nil, Nat.reduceSub, ite10_0, ite10_1, ite10_01, Classical.not_not, f, g, z1, q_seatedFirst hI hH, c3, j3, e3, q_runLever hI hH hr hk, w32_s j4] <;> clear f g e3
    exact ih
set_option maxRecDepth 20000 in
theorem q_firstUnfitC (hI : Inq V) (hH : Vw V H) : CC (d + 4) TR_firstUnfit [va (V 4 0)] H Q = Q (vi (optI (unfO V (tsV V) (taV V)))) H := by
  refine CC_dt fun Q hQ => ?_
  have hu := hI.boat.u
  have h1 := hI.plan.runs
  have h2 := hI.plan.near
  have hrr : ∀ r : Nat, r < nU V → (¬ (nU V : Int) ≤ r) ∧ r < 2147483647 := fun r hr => ⟨by omega, by omega⟩
  have z1 := shp hI
  simp only [en_TR_firstUnfit, e_TR_firstUnfit_0, k_TR_firstUnfit_0, rr, sh, Nat.reduceLT, Nat.reduceMul, Int.reduceToNat, Int.reduceGT, Int.reduceGE, Int.reduceNe, true_and, and_true, true_or, or_true, false_or, or_false, and_self, or_self, if_true, if_false, reduceIte, not_true_eq_false, not_false_eq_true, Int.reduceEq, Int.reduceNe, Int.reduceLT, Int.reduceLE, Int.reduceAdd, Int.reduceSub, Int.reduceMul, Int.reduceNeg, Nat.reduceAdd, Nat.reduceLeDiff, Nat.reduceEqDiff, ne_eq, List.length_cons, List.length_nil, Nat.reduceSub, ite10_0, ite10_1, ite10_01, Classical.not_not]
  refine up_nat (P := fun r => fstF (fun r => !fitB V (tsV V) (taV V) r) r = none → R (d + 4) TR_firstUnfit (blk TR_firstUnfit 1) [va (V 4 0), vi r] [] H Q) ?_ ?_ 0 (Nat.zero_le (nU V)) rfl
  · intro hf
    unfold unfO at hQ
    rw [hf] at hQ
    rw [e_TR_firstUnfit_1]
    have f := hH.f hI.ptr; have g := pl_f hH hI.pp hI.ptr; simp only [k_TR_firstUnfit_1, e_TR_firstUnfit_3, k_TR_firstUnfit_3, rr, sh, Nat.reduceLT, Nat.reduceMul, Int.reduceToNat, Int.reduceGT, Int.reduceGE, Int.reduceNe, true_and, and_true, true_or, or_true, false_or, or_false, and_self, or_self, if_true, if_false, reduceIte, not_true_eq_false, not_false_eq_true, Int.reduceEq, Int.reduceNe, Int.reduceLT, Int.reduceLE, Int.reduceAdd, Int.reduceSub, Int.reduceMul, Int.reduceNeg, Nat.reduceAdd, Nat.reduceLeDiff, Nat.reduceEqDiff, ne_eq, List.length_cons, List.length_nil, Nat.reduceSub, ite10_0, ite10_1, ite10_01, Classical.not_not, f, g, z1, h1, Int.le_refl] <;> clear f g
    exact hQ
  · intro r hr ih hf
    obtain ⟨c1, c2⟩ := hrr r hr
    have hnx : fstF (fun r => !fitB V (tsV V) (taV V) r) (r + 1) = if (!fitB V (tsV V) (taV V) r) = true then some r else none := by
      show (match fstF (fun r => !fitB V (tsV V) (taV V) r) r with | some b => some b | none => if (!fitB V (tsV V) (taV V) r) = true then some r else none) = _
      rw [hf]
    rw [e_TR_firstUnfit_1]
    have f := hH.f hI.ptr; have g := pl_f hH hI.pp hI.ptr; simp only [k_TR_firstUnfit_1, e_TR_firstUnfit_2, k_TR_firstUnfit_2, rr, sh, Nat.reduceLT, Nat.reduceMul, Int.reduceToNat, Int.reduceGT, Int.reduceGE, Int.reduceNe, true_and, and_true, true_or, or_true, false_or, or_false, and_self, or_self, if_true, if_false, reduceIte, not_true_eq_false, not_false_eq_true, Int.reduceEq, Int.reduceNe, Int.reduceLT, Int.reduceLE, Int.reduceAdd, Int.reduceSub, Int.reduceMul, Int.reduceNeg, Nat.reduceAdd, Nat.reduceLeDiff, Nat.reduceEqDiff, ne_eq, List.length_cons, List.length_nil, Nat.reduceSub, ite10_0, ite10_1, ite10_01, Classical.not_not, f, g, z1, h1, h2, c1, c3_le, q_gapAsTold hI hH hr, q_absL, w32_s c2] <;> clear f g
    by_cases h : abL (fitG V (tsV V) (taV V) r) ≤ V 99 1
    · have hb : fitB V (tsV V) (taV V) r = true := decide_eq_true h
      rw [hb] at hnx
      rw [if_pos h]
      exact ih (hnx.trans (if_neg (by decide)))
    · have hb : fitB V (tsV V) (taV V) r = false := decide_eq_false h
      rw [hb] at hnx
      have := fstF_mono (hnx.trans (if_pos (by decide))) (show r + 1 ≤ nU V from hr)
      unfold unfO at hQ
      rw [this] at hQ
      rw [if_neg h]
      exact hQ
set_option maxRecDepth 20000 in
theorem q_fitsC (hI : Inq V) (hH : Vw V H) : CC (d + 5) EO_fits [va 1] H Q = Q (vi (fitsS V)) H := by
  refine CC_dt fun Q hQ => ?_
  have f := hH.f hI.ptr; have g := pl_f hH hI.pp hI.ptr; simp only [en_EO_fits, e_EO_fits_0, k_EO_fits_0, rr, sh, Nat.reduceLT, Nat.reduceMul, Int.reduceToNat, Int.reduceGT, Int.reduceGE, Int.reduceNe, true_and, and_true, true_or, or_true, false_or, or_false, and_self, or_self, if_true, if_false, reduceIte, not_true_eq_false, not_false_eq_true, Int.reduceEq, Int.reduceNe, Int.reduceLT, Int.reduceLE, Int.reduceAdd, Int.reduceSub, Int.reduceMul, Int.reduceNeg, Nat.reduceAdd, Nat.reduceLeDiff, Nat.reduceEqDiff, ne_eq, List.length_cons, List.length_nil, Nat.reduceSub, ite10_0, ite10_1, ite10_01, Classical.not_not, f, g, q_firstUnfitC hI hH] <;> clear f g
  exact hQ
/-- strengths and arms that are tried -/
def Tri (V H : Hp) (s a : Nat → Int) : Prop := (∀ k : Nat, k < nR V → H 115 k = s k ∧ 1 ≤ s k ∧ s k ≤ 99) ∧ ∀ k : Nat, k < nS V → H 116 k = a k ∧ 1 ≤ a k ∧ a k ≤ 99
set_option maxRecDepth 20000 in
theorem q_isFit (hM : Inm V) (hH : Vw V H) {s a : Nat → Int} (hT : Tri V H s a) {r : Nat} (hr : r < nU V) : CC (d + 1) MO_isFit [va 71, vi r] H Q = Q (vi (if fitB V s a r = true then 1 else 0)) H := by
  refine CC_dt fun Q hQ => ?_
  have hu := hM.boat.u
  have hn := hM.boat.s
  have hn2 := hM.boat.r
  obtain ⟨p1, p2⟩ := pw_lt hM hr
  have w2 : w32 (8 + (r : Int)) = 8 + r := by clear p1; exact w32_id (by omega) (by omega)
  have j2 : 0 ≤ 8 + (r : Int) ∧ 8 + (r : Int) < 16 := by clear p1 w2; omega
  have fin : ∀ (k : Nat) (x y : AV), R (d + 1) MO_isFit (blk MO_isFit 5) [va 71, vi r, vl (w64 (sumI (fitW V s a r) (mnV V))), vu, vi k, x, y, vu] [] H Q := by
    intro k x y
    have eg : w64 (w64 (sumI (fitW V s a r) (mnV V)) - V 104 (8 + r)) = fitG V s a r := by unfold fitG; rw [w64_sl]
    have kj := j2
    have f := hH.f hM.ptr; simp only [e_MO_isFit_5, k_MO_isFit_5, e_MO_isFit_6, k_MO_isFit_6, e_MO_isFit_7, k_MO_isFit_7, en_MO_near, e_MO_near_0, k_MO_near_0, rr, sh, Nat.reduceLT, Nat.reduceMul, Int.reduceToNat, Int.reduceGT, Int.reduceGE, Int.reduceNe, true_and, and_true, true_or, or_true, false_or, or_false, and_self, or_self, if_true, if_false, reduceIte, not_true_eq_false, not_false_eq_true, Int.reduceEq, Int.reduceNe, Int.reduceLT, Int.reduceLE, Int.reduceAdd, Int.reduceSub, Int.reduceMul, Int.reduceNeg, Nat.reduceAdd, Nat.reduceLeDiff, Nat.reduceEqDiff, ne_eq, List.length_cons, List.length_nil, Nat.reduceSub, ite10_0, ite10_1, ite10_01, Classical.not_not, f, w2, kj, q_size, c3_gt] <;> clear f w2
    rw [eg]
    by_cases h : abL (fitG V s a r) ≤ V 99 1
    · have hb : fitB V s a r = true := decide_eq_true h
      rw [if_pos hb] at hQ
      rw [if_neg (Int.not_lt.mpr h)]; exact hQ
    · have hb : ¬ fitB V s a r = true := fun q => h (of_decide_eq_true q)
      rw [if_neg hb] at hQ
      rw [if_pos (Int.not_le.mp h)]; exact hQ
  have hkk : ∀ k : Nat, k < mnV V → k < nS V ∧ k < nR V ∧ (¬ (nS V : Int) ≤ k) ∧ (¬ (nR V : Int) ≤ k) ∧ (0 ≤ (k : Int) ∧ (k : Int) < 12) ∧ k < 2147483647 ∧ w32 (w32 (96 + w32 (12 * (r : Int))) + k) = 96 + 12 * (r : Int) + k ∧ (0 ≤ 96 + 12 * (r : Int) + k ∧ 96 + 12 * (r : Int) + k < 192) ∧ w32 (12 + (k : Int)) = 12 + k ∧ (0 ≤ 12 + (k : Int) ∧ 12 + (k : Int) < 24) := by
    intro k hk
    clear p1 w2 hQ fin
    have hk2 : k < nS V ∧ k < nR V := by unfold mnV at hk; omega
    refine ⟨hk2.1, hk2.2, by omega, by omega, by omega, by omega, ?_, by omega, w32_id (by omega) (by omega), by omega⟩
    rw [w32_id (x := 12 * (r : Int)) (by omega) (by omega), w32_id (x := 96 + 12 * (r : Int)) (by omega) (by omega), w32_id (by omega) (by omega)]
  have hend : (nS V : Int) ≤ mnV V ∨ (nR V : Int) ≤ mnV V := by unfold mnV; omega
  have f := hH.f hM.ptr; simp only [en_MO_isFit, e_MO_isFit_0, k_MO_isFit_0, rr, sh, Nat.reduceLT, Nat.reduceMul, Int.reduceToNat, Int.reduceGT, Int.reduceGE, Int.reduceNe, true_and, and_true, true_or, or_true, false_or, or_false, and_self, or_self, if_true, if_false, reduceIte, not_true_eq_false, not_false_eq_true, Int.reduceEq, Int.reduceNe, Int.reduceLT, Int.reduceLE, Int.reduceAdd, Int.reduceSub, Int.reduceMul, Int.reduceNeg, Nat.reduceAdd, Nat.reduceLeDiff, Nat.reduceEqDiff, ne_eq, List.length_cons, List.length_nil, Nat.reduceSub, ite10_0, ite10_1, ite10_01, Classical.not_not, f] <;> clear f
  refine up_nat (P := fun k => ∀ x y, R (d + 1) MO_isFit (blk MO_isFit 1) [va 71, vi r, vl (w64 (sumI (fitW V s a r) k)), vu, vi k, x, y, vu] [] H Q) ?_ ?_ 0 (Nat.zero_le (mnV V)) vu vu
  · intro x y
    rw [e_MO_isFit_1]
    by_cases c1 : (nS V : Int) ≤ mnV V
    · have f := hH.f hM.ptr; simp only [k_MO_isFit_1, en_MO_seats, e_MO_seats_0, k_MO_seats_0, rr, sh, Nat.reduceLT, Nat.reduceMul, Int.reduceToNat, Int.reduceGT, Int.reduceGE, Int.reduceNe, true_and, and_true, true_or, or_true, false_or, or_false, and_self, or_self, if_true, if_false, reduceIte, not_true_eq_false, not_false_eq_true, Int.reduceEq, Int.reduceNe, Int.reduceLT, Int.reduceLE, Int.reduceAdd, Int.reduceSub, Int.reduceMul, Int.reduceNeg, Nat.reduceAdd, Nat.reduceLeDiff, Nat.reduceEqDiff, ne_eq, List.length_cons, List.length_nil, Nat.reduceSub, ite10_0, ite10_1, ite10_01, Classical.not_not, f, hn.1, c1] <;> clear f
      exact fin _ x y
    · have c2 : (nR V : Int) ≤ mnV V := by rcases hend with h | h; exact absurd h c1; exact h
      have hr1 := hn2.1
      have f := hH.f hM.ptr; simp only [k_MO_isFit_1, en_MO_seats, e_MO_seats_0, k_MO_seats_0, en_MO_rowers, e_MO_rowers_0, k_MO_rowers_0, rr, sh, Nat.reduceLT, Nat.reduceMul, Int.reduceToNat, Int.reduceGT, Int.reduceGE, Int.reduceNe, true_and, and_true, true_or, or_true, false_or, or_false, and_self, or_self, if_true, if_false, reduceIte, not_true_eq_false, not_false_eq_true, Int.reduceEq, Int.reduceNe, Int.reduceLT, Int.reduceLE, Int.reduceAdd, Int.reduceSub, Int.reduceMul, Int.reduceNeg, Nat.reduceAdd, Nat.reduceLeDiff, Nat.reduceEqDiff, ne_eq, List.length_cons, List.length_nil, Nat.reduceSub, ite10_0, ite10_1, ite10_01, Classical.not_not, f, hn.1, hr1, c1, c2] <;> clear f
      exact fin _ x y
  · intro k hk ih x y
    obtain ⟨g1, g2, c1, c2, j3, j4, w5, j5, w6, j6⟩ := hkk k hk
    obtain ⟨t1, t2, t3⟩ := hT.1 k g2
    obtain ⟨t4, t5, t6⟩ := hT.2 k g1
    have hm : 0 ≤ s k * a k ∧ s k * a k ≤ 99 * 99 := ⟨Int.mul_nonneg (by clear p1 w2 hQ; omega) (by clear p1 w2 hQ; omega), Int.mul_le_mul t3 t6 (by clear p1 w2 hQ; omega) (by omega)⟩
    have w7 : w32 (s k * a k) = s k * a k := by clear p1 w2 hQ t1 t4 w5 w6; exact w32_id (by omega) (by omega)
    have hr1 := hn2.1
    have hp9 : pwV V r < 100 := by clear p1 w2 hQ t1 t4 w5 w6 w7 hm; omega
    have ih2 := ih
    have ea : ∀ z, (V 102 (96 + 12 * r + k) = 2 → z = w64 (w64 (sumI (fitW V s a r) k) + w64 (s k * a k * w64 (V 92 (12 + k) ^ pwV V r)))) → (V 102 (96 + 12 * r + k) = 1 → z = w64 (w64 (sumI (fitW V s a r) k) + w64 (-w64 (s k * a k * w64 (V 92 (12 + k) ^ pwV V r))))) → (¬ V 102 (96 + 12 * r + k) = 2 → ¬ V 102 (96 + 12 * r + k) = 1 → z = w64 (w64 (sumI (fitW V s a r) k) + 0)) → z = w64 (sumI (fitW V s a r) (k + 1)) := by
      intro z z1 z2 z3
      show z = w64 (sumI (fitW V s a r) k + sidV V r k * (s k * a k * V 92 (12 + k) ^ pwV V r))
      unfold sidV
      by_cases q2 : V 102 (96 + 12 * r + k) = 2
      · rw [if_pos q2, z1 q2, w64_mr, w64_al, w64_ar, Int.one_mul]
      · by_cases q1 : V 102 (96 + 12 * r + k) = 1
        · rw [if_neg q2, if_pos q1, z2 q1, w64_mr, w64_neg, w64_al, w64_ar, Int.neg_mul, Int.one_mul]
        · rw [if_neg q2, if_neg q1, z3 q2 q1, Int.zero_mul, w64_al]
    clear hm t2 t3 t5 t6
    rw [e_MO_isFit_1]
    have f := hH.f hM.ptr; simp only [k_MO_isFit_1, e_MO_isFit_2, k_MO_isFit_2, e_MO_isFit_3, k_MO_isFit_3, e_MO_isFit_4, k_MO_isFit_4, en_MO_seats, e_MO_seats_0, k_MO_seats_0, en_MO_rowers, e_MO_rowers_0, k_MO_rowers_0, rr, sh, Nat.reduceLT, Nat.reduceMul, Int.reduceToNat, Int.reduceGT, Int.reduceGE, Int.reduceNe, true_and, and_true, true_or, or_true, false_or, or_false, and_self, or_self, if_true, if_false, reduceIte, not_true_eq_false, not_false_eq_true, Int.reduceEq, Int.reduceNe, Int.reduceLT, Int.reduceLE, Int.reduceAdd, Int.reduceSub, Int.reduceMul, Int.reduceNeg, Nat.reduceAdd, Nat.reduceLeDiff, Nat.reduceEqDiff, ne_eq, List.length_cons, List.length_nil, Nat.reduceSub, ite10_0, ite10_1, ite10_01, Classical.not_not, f, hn.1, hr1, c1, c2, j2, j3, j5, j6, w5, w6, w2, p1, t1, t4, w7, q_raised hp9, w32_s j4] <;> clear f w5 w6 w2 w7
    by_cases q2 : V 102 (96 + 12 * r + k) = 2
    · rw [if_neg (fun q => q q2)]
      rw [ea _ (fun _ => rfl) (fun q => by rw [q2] at q; cases q) (fun q => absurd q2 q)]
      exact ih2 _ _
    · rw [if_pos q2]
      by_cases q1 : V 102 (96 + 12 * r + k) = 1
      · rw [if_neg (fun q => q q1)]
        rw [ea _ (fun q => absurd q q2) (fun _ => rfl) (fun _ q => absurd q1 q)]
        exact ih2 _ _
      · rw [if_pos q1]
        rw [ea _ (fun q => absurd q q2) (fun q => absurd q q1) (fun _ _ => rfl)]
        exact ih2 _ _
set_option maxRecDepth 20000 in
theorem q_firstUnfitM (hM : Inm V) (hH : Vw V H) {s a : Nat → Int} (hT : Tri V H s a) : CC (d + 2) MO_firstUnfit [va 71] H Q = Q (vi (optI (unfO V s a))) H := by
  refine CC_dt fun Q hQ => ?_
  have hu := hM.boat.u
  have hrr : ∀ r : Nat, r < nU V → (¬ (nU V : Int) ≤ r) ∧ r < 2147483647 := fun r hr => ⟨by omega, by omega⟩
  simp only [en_MO_firstUnfit, e_MO_firstUnfit_0, k_MO_firstUnfit_0, rr, sh, Nat.reduceLT, Nat.reduceMul, Int.reduceToNat, Int.reduceGT, Int.reduceGE, Int.reduceNe, true_and, and_true, true_or, or_true, false_or, or_false, and_self, or_self, if_true, if_false, reduceIte, not_true_eq_false, not_false_eq_true, Int.reduceEq, Int.reduceNe, Int.reduceLT, Int.reduceLE, Int.reduceAdd, Int.reduceSub, Int.reduceMul, Int.reduceNeg, Nat.reduceAdd, Nat.reduceLeDiff, Nat.reduceEqDiff, ne_eq, List.length_cons, List.length_nil, Nat.reduceSub, ite10_0, ite10_1, ite10_01, Classical.not_not]
  refine up_nat (P := fun r => fstF (fun r => !fitB V s a r) r = none → R (d + 2) MO_firstUnfit (blk MO_firstUnfit 1) [va 71, vi r] [] H Q) ?_ ?_ 0 (Nat.zero_le (nU V)) rfl
  · intro hf
    unfold unfO at hQ
    rw [hf] at hQ
    rw [e_MO_firstUnfit_1]
    have f := hH.f hM.ptr; simp only [k_MO_firstUnfit_1, e_MO_firstUnfit_3, k_MO_firstUnfit_3, en_MO_runs, e_MO_runs_0, k_MO_runs_0, rr, sh, Nat.reduceLT, Nat.reduceMul, Int.reduceToNat, Int.reduceGT, Int.reduceGE, Int.reduceNe, true_and, and_true, true_or, or_true, false_or, or_false, and_self, or_self, if_true, if_false, reduceIte, not_true_eq_false, not_false_eq_true, Int.reduceEq, Int.reduceNe, Int.reduceLT, Int.reduceLE, Int.reduceAdd, Int.reduceSub, Int.reduceMul, Int.reduceNeg, Nat.reduceAdd, Nat.reduceLeDiff, Nat.reduceEqDiff, ne_eq, List.length_cons, List.length_nil, Nat.reduceSub, ite10_0, ite10_1, ite10_01, Classical.not_not, f, hu.1, Int.le_refl] <;> clear f
    exact hQ
  · intro r hr ih hf
    obtain ⟨c1, c2⟩ := hrr r hr
    have hnx : fstF (fun r => !fitB V s a r) (r + 1) = if (!fitB V s a r) = true then some r else none := by
      show (match fstF (fun r => !fitB V s a r) r with | some b => some b | none => if (!fitB V s a r) = true then some r else none) = _
      rw [hf]
    rw [e_MO_firstUnfit_1]
    have f := hH.f hM.ptr; simp only [k_MO_firstUnfit_1, e_MO_firstUnfit_2, k_MO_firstUnfit_2, en_MO_runs, e_MO_runs_0, k_MO_runs_0, rr, sh, Nat.reduceLT, Nat.reduceMul, Int.reduceToNat, Int.reduceGT, Int.reduceGE, Int.reduceNe, true_and, and_true, true_or, or_true, false_or, or_false, and_self, or_self, if_true, if_false, reduceIte, not_true_eq_false, not_false_eq_true, Int.reduceEq, Int.reduceNe, Int.reduceLT, Int.reduceLE, Int.reduceAdd, Int.reduceSub, Int.reduceMul, Int.reduceNeg, Nat.reduceAdd, Nat.reduceLeDiff, Nat.reduceEqDiff, ne_eq, List.length_cons, List.length_nil, Nat.reduceSub, ite10_0, ite10_1, ite10_01, Classical.not_not, f, hu.1, c1, q_isFit hM hH hT hr, w32_s c2] <;> clear f
    by_cases hb : fitB V s a r = true
    · rw [hb] at hnx
      rw [if_pos hb]
      exact ih (hnx.trans (if_neg (by decide)))
    · have hb2 : fitB V s a r = false := by simpa using hb
      rw [hb2] at hnx
      have := fstF_mono (hnx.trans (if_pos (by decide))) (show r + 1 ≤ nU V from hr)
      unfold unfO at hQ
      rw [this] at hQ
      rw [if_neg hb]
      exact hQ
set_option maxRecDepth 20000 in
theorem c_triesTold (hM : Inm V) (hH : Vw V H) (hQ : ∀ H', Vw V H' → Tri V H' (tsV V) (taV V) → Q vu H') : CC (d + 1) MO_triesTold [va 71] H Q := by
  have hn := hM.boat.s
  have hn2 := hM.boat.r
  have hr1 := hn2.1
  have hb1 := hM.boat.str
  have hb2 := hM.boat.arm
  have hkk : ∀ k : Nat, k < 12 → (0 ≤ (k : Int) ∧ (k : Int) < 12) ∧ k < 2147483647 ∧ w32 (12 + (k : Int)) = 12 + k ∧ (0 ≤ 12 + (k : Int) ∧ 12 + (k : Int) < 24) := fun k hk => ⟨by omega, by omega, w32_id (by omega) (by omega), by omega⟩
  have f := hH.f hM.ptr; simp only [en_MO_triesTold, e_MO_triesTold_0, k_MO_triesTold_0, rr, sh, Nat.reduceLT, Nat.reduceMul, Int.reduceToNat, Int.reduceGT, Int.reduceGE, Int.reduceNe, true_and, and_true, true_or, or_true, false_or, or_false, and_self, or_self, if_true, if_false, reduceIte, not_true_eq_false, not_false_eq_true, Int.reduceEq, Int.reduceNe, Int.reduceLT, Int.reduceLE, Int.reduceAdd, Int.reduceSub, Int.reduceMul, Int.reduceNeg, Nat.reduceAdd, Nat.reduceLeDiff, Nat.reduceEqDiff, ne_eq, List.length_cons, List.length_nil, Nat.reduceSub, ite10_0, ite10_1, ite10_01, Classical.not_not, f] <;> clear f
  refine up_nat (P := fun k => ∀ H', Vw V H' → (∀ j : Nat, j < k → H' 115 j = tsV V j) → R (d + 1) MO_triesTold (blk MO_triesTold 1) [va 71, vi k] [] H' Q) ?_ ?_ 0 (Nat.zero_le (nR V)) H hH (fun j hj => absurd hj (Nat.not_lt_zero j))
  · intro H1 hH a1
    rw [e_MO_triesTold_1]
    have f := hH.f hM.ptr; simp only [k_MO_triesTold_1, e_MO_triesTold_2, k_MO_triesTold_2, en_MO_rowers, e_MO_rowers_0, k_MO_rowers_0, rr, sh, Nat.reduceLT, Nat.reduceMul, Int.reduceToNat, Int.reduceGT, Int.reduceGE, Int.reduceNe, true_and, and_true, true_or, or_true, false_or, or_false, and_self, or_self, if_true, if_false, reduceIte, not_true_eq_false, not_false_eq_true, Int.reduceEq, Int.reduceNe, Int.reduceLT, Int.reduceLE, Int.reduceAdd, Int.reduceSub, Int.reduceMul, Int.reduceNeg, Nat.reduceAdd, Nat.reduceLeDiff, Nat.reduceEqDiff, ne_eq, List.length_cons, List.length_nil, Nat.reduceSub, ite10_0, ite10_1, ite10_01, Classical.not_not, f, hr1, Int.le_refl] <;> clear f
    refine up_nat (P := fun k => ∀ H', Vw V H' → (∀ j : Nat, j < nR V → H' 115 j = tsV V j) → (∀ j : Nat, j < k → H' 116 j = taV V j) → R (d + 1) MO_triesTold (blk MO_triesTold 3) [va 71, vi k] [] H' Q) ?_ ?_ 0 (Nat.zero_le (nS V)) H1 hH a1 (fun j hj => absurd hj (Nat.not_lt_zero j))
    · intro H2 hH a1 a2
      rw [e_MO_triesTold_3]
      have f := hH.f hM.ptr; simp only [k_MO_triesTold_3, e_MO_triesTold_4, k_MO_triesTold_4, en_MO_seats, e_MO_seats_0, k_MO_seats_0, rr, sh, Nat.reduceLT, Nat.reduceMul, Int.reduceToNat, Int.reduceGT, Int.reduceGE, Int.reduceNe, true_and, and_true, true_or, or_true, false_or, or_false, and_self, or_self, if_true, if_false, reduceIte, not_true_eq_false, not_false_eq_true, Int.reduceEq, Int.reduceNe, Int.reduceLT, Int.reduceLE, Int.reduceAdd, Int.reduceSub, Int.reduceMul, Int.reduceNeg, Nat.reduceAdd, Nat.reduceLeDiff, Nat.reduceEqDiff, ne_eq, List.length_cons, List.length_nil, Nat.reduceSub, ite10_0, ite10_1, ite10_01, Classical.not_not, f, hn.1, Int.le_refl] <;> clear f
      exact hQ H2 hH ⟨fun k hk => ⟨a1 k hk, hb1 k hk⟩, fun k hk => ⟨a2 k hk, hb2 k hk⟩⟩
    · intro k hk ih H2 hH a1 a2
      obtain ⟨j1, j2, w1, j3⟩ := hkk k (Nat.lt_of_lt_of_le hk hn.2)
      have c1 : ¬ (nS V : Int) ≤ k := Int.not_le.mpr (Int.ofNat_lt.mpr hk)
      rw [e_MO_triesTold_3]
      have f := hH.f hM.ptr; simp only [k_MO_triesTold_3, en_MO_seats, e_MO_seats_0, k_MO_seats_0, rr, sh, Nat.reduceLT, Nat.reduceMul, Int.reduceToNat, Int.reduceGT, Int.reduceGE, Int.reduceNe, true_and, and_true, true_or, or_true, false_or, or_false, and_self, or_self, if_true, if_false, reduceIte, not_true_eq_false, not_false_eq_true, Int.reduceEq, Int.reduceNe, Int.reduceLT, Int.reduceLE, Int.reduceAdd, Int.reduceSub, Int.reduceMul, Int.reduceNeg, Nat.reduceAdd, Nat.reduceLeDiff, Nat.reduceEqDiff, ne_eq, List.length_cons, List.length_nil, Nat.reduceSub, ite10_0, ite10_1, ite10_01, Classical.not_not, f, hn.1, c1, j1, j3, w1, w32_s j2] <;> clear f w1
      refine ih _ (hH.hs (c := 116) (j := (k : Int)) rfl) (fun j hj => by rw [hs_ne (by decide)]; exact a1 j hj) (fun j hj => ?_)
      rw [hs_app]
      by_cases h : j = k
      · rw [if_pos ⟨rfl, congrArg _ h⟩, h]; rfl
      · rw [if_neg (fun q => h (Int.ofNat_inj.mp q.2))]; exact a2 j (Nat.lt_of_le_of_ne (Nat.le_of_lt_succ hj) h)
  · intro k hk ih H1 hH a1
    obtain ⟨j1, j2, w1, j3⟩ := hkk k (Nat.lt_of_lt_of_le hk hn2.2)
    have c1 : ¬ (nR V : Int) ≤ k := Int.not_le.mpr (Int.ofNat_lt.mpr hk)
    rw [e_MO_triesTold_1]
    have f := hH.f hM.ptr; simp only [k_MO_triesTold_1, en_MO_rowers, e_MO_rowers_0, k_MO_rowers_0, rr, sh, Nat.reduceLT, Nat.reduceMul, Int.reduceToNat, Int.reduceGT, Int.reduceGE, Int.reduceNe, true_and, and_true, true_or, or_true, false_or, or_false, and_self, or_self, if_true, if_false, reduceIte, not_true_eq_false, not_false_eq_true, Int.reduceEq, Int.reduceNe, Int.reduceLT, Int.reduceLE, Int.reduceAdd, Int.reduceSub, Int.reduceMul, Int.reduceNeg, Nat.reduceAdd, Nat.reduceLeDiff, Nat.reduceEqDiff, ne_eq, List.length_cons, List.length_nil, Nat.reduceSub, ite10_0, ite10_1, ite10_01, Classical.not_not, f, hr1, c1, j1, j3, w1, w32_s j2] <;> clear f w1
    refine ih _ (hH.hs (c := 115) (j := (k : Int)) rfl) (fun j hj => ?_)
    rw [hs_app]
    by_cases h : j = k
    · rw [if_pos ⟨rfl, congrArg _ h⟩, h]; rfl
    · rw [if_neg (fun q => h (Int.ofNat_inj.mp q.2))]; exact a1 j (Nat.lt_of_le_of_ne (Nat.le_of_lt_succ hj) h)
set_option maxRecDepth 20000 in
theorem c_fitsM (hM : Inm V) (hH : Vw V H) (hQ : ∀ H', Vw V H' → Q (vi (fitsS V)) H') : CC (d + 3) MO_fits [va 71] H Q := by
  have f := hH.f hM.ptr; simp only [en_MO_fits, e_MO_fits_0, k_MO_fits_0, rr, sh, Nat.reduceLT, Nat.reduceMul, Int.reduceToNat, Int.reduceGT, Int.reduceGE, Int.reduceNe, true_and, and_true, true_or, or_true, false_or, or_false, and_self, or_self, if_true, if_false, reduceIte, not_true_eq_false, not_false_eq_true, Int.reduceEq, Int.reduceNe, Int.reduceLT, Int.reduceLE, Int.reduceAdd, Int.reduceSub, Int.reduceMul, Int.reduceNeg, Nat.reduceAdd, Nat.reduceLeDiff, Nat.reduceEqDiff, ne_eq, List.length_cons, List.length_nil, Nat.reduceSub, ite10_0, ite10_1, ite10_01, Classical.not_not, f] <;> clear f
  refine c_triesTold hM hH fun H1 hH hT => ?_
  have f := hH.f hM.ptr; simp only [en_MO_fits, e_MO_fits_0, k_MO_fits_0, rr, sh, Nat.reduceLT, Nat.reduceMul, Int.reduceToNat, Int.reduceGT, Int.reduceGE, Int.reduceNe, true_and, and_true, true_or, or_true, false_or, or_false, and_self, or_self, if_true, if_false, reduceIte, not_true_eq_false, not_false_eq_true, Int.reduceEq, Int.reduceNe, Int.reduceLT, Int.reduceLE, Int.reduceAdd, Int.reduceSub, Int.reduceMul, Int.reduceNeg, Nat.reduceAdd, Nat.reduceLeDiff, Nat.reduceEqDiff, ne_eq, List.length_cons, List.length_nil, Nat.reduceSub, ite10_0, ite10_1, ite10_01, Classical.not_not, f, q_firstUnfitM hM hH hT] <;> clear f
  exact hQ H1 hH
end FT
