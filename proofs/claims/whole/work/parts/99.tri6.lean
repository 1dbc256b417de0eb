/-! strengths: the class counts, and remembers -/
theorem sTR_nq (a b : Int) (h : sTR a b = true) : nq a b = true := by
  unfold sTR at h
  by_cases h0 : a = 58
  · subst h0
    simp at h
    rcases h with rfl | rfl <;> rfl
  · by_cases h1 : a = 59
    · subst h1; rfl
    · by_cases h2 : a = 60
      · subst h2; rfl
      · by_cases h3 : a = 61
        · subst h3; rfl
        · by_cases h4 : a = 62
          · subst h4; rfl
          · by_cases h5 : a = 63
            · subst h5; rfl
            · by_cases h6 : a = 64
              · subst h6; rfl
              · by_cases h7 : a = 65
                · subst h7; rfl
                · simp [h0, h1, h2, h3, h4, h5, h6, h7] at h
theorem tr_vq {V H : Hp} (h : Fx sTR V H) : Vq V H := fun a b q => h a b (by
  cases e : sTR a b with
  | false => rfl
  | true => rw [sTR_nq a b e] at q; cases q)
theorem loB_s {V : Hp} {r k j : Nat} : loB V r k (j + 1) = min (aTr V r k * 1) (aTr V r k * 9) + loB V r (k + 1) j ∧ hiB V r k (j + 1) = max (aTr V r k * 1) (aTr V r k * 9) + hiB V r (k + 1) j := by
  unfold loB hiB
  constructor
  · rw [sumI_front, Nat.add_zero]
    exact congrArg (fun z => min (aTr V r k * 1) (aTr V r k * 9) + z) (sumI_cg fun i _ => by rw [show k + (i + 1) = k + 1 + i by omega])
  · rw [sumI_front, Nat.add_zero]
    exact congrArg (fun z => max (aTr V r k * 1) (aTr V r k * 9) + z) (sumI_cg fun i _ => by rw [show k + (i + 1) = k + 1 + i by omega])
section TC
variable {d : Nat} {V H : Hp} {Q : AV → Hp → Prop}
set_option maxRecDepth 20000 in
theorem q_rlOff (hI : Inq V) (hH : Vw V H) {r k : Nat} (hr : r < nU V) (hk : mnV V ≤ k) : CC (d + 2) PL_runLever [va (V 4 0), vi r, vi k] H Q = Q (vl 0) H := by
  have e13 := hI.plan.runs
  have c1 : ¬ (r : Int) < 0 := by omega
  have c2 : ¬ (nU V : Int) ≤ r := by omega
  have c3 : ¬ (k : Int) < 0 := by omega
  have c4 : ¬ (k : Int) < mnV V := by omega
  have z1 := shp hI
  have f := hH.f hI.ptr; have g := pl_f hH hI.pp hI.ptr; simp only [en_PL_runLever, e_PL_runLever_0, k_PL_runLever_0, e_PL_runLever_1, k_PL_runLever_1, rr, sh, Nat.reduceLT, Nat.reduceMul, Int.reduceToNat, Int.reduceGT, Int.reduceGE, Int.reduceNe, true_and, and_true, true_or, or_true, false_or, or_false, and_self, or_self, if_true, if_false, reduceIte, not_true_eq_false, not_false_eq_true, Int.reduceEq, Int.reduceNe, Int.reduceLT, Int.reduceLE, Int.reduceAdd, Int.reduceSub, Int.reduceMul, Int.reduceNeg, Nat.reduceAdd, Nat.reduceLeDiff, Nat.reduceEqDiff, ne_eq, List.length_cons, List.length_nil, Nat.reduceSub, ite10_0, ite10_1, ite10_01, Classical.not_not, f, g, z1, e13, c1, c2, c3, c4, q_seatedFirst hI hH] <;> clear f g e13
set_option maxRecDepth 20000 in
theorem q_swung (hI : Inq V) (hH : Vw V H) {r : Nat} (hr : r < nU V) : CC d PL_swungOf [va (V 4 0), vi r] H Q = Q (vl (V 104 (8 + r))) H := by
  have hu := hI.boat.u
  have e13 := hI.plan.runs
  have e16 := hI.plan.rsw r hr
  have c1 : ¬ (r : Int) < 0 := by omega
  have c2 : ¬ (nU V : Int) ≤ r := by omega
  have jr : 0 ≤ (r : Int) ∧ (r : Int) < 8 := by omega
  have z1 := shp hI
  have f := hH.f hI.ptr; have g := pl_f hH hI.pp hI.ptr; simp only [en_PL_swungOf, e_PL_swungOf_0, k_PL_swungOf_0, e_PL_swungOf_1, k_PL_swungOf_1, e_PL_swungOf_2, k_PL_swungOf_2, rr, sh, Nat.reduceLT, Nat.reduceMul, Int.reduceToNat, Int.reduceGT, Int.reduceGE, Int.reduceNe, true_and, and_true, true_or, or_true, false_or, or_false, and_self, or_self, if_true, if_false, reduceIte, not_true_eq_false, not_false_eq_true, Int.reduceEq, Int.reduceNe, Int.reduceLT, Int.reduceLE, Int.reduceAdd, Int.reduceSub, Int.reduceMul, Int.reduceNeg, Nat.reduceAdd, Nat.reduceLeDiff, Nat.reduceEqDiff, ne_eq, List.length_cons, List.length_nil, Nat.reduceSub, ite10_0, ite10_1, ite10_01, Classical.not_not, f, g, z1, e13, c1, c2, e16, jr] <;> clear f g e13 e16
theorem q_rlT (hI : Inq V) (hS : Fx sTR V H) {r k : Nat} (hr : r < nU V) : CC (d + 2) PL_runLever [va (V 4 0), vi r, vi k] H Q = Q (vl (aTr V r k)) H := by
  have hIH := hI.vq (tr_vq hS)
  have e40 : H 4 0 = V 4 0 := hS 4 0 rfl
  have e91 : H 91 = V 91 := hS.cell 91 (fun _ => rfl)
  have eU : nU H = nU V := by unfold nU nN; rw [e91]
  have eM : mnV H = mnV V := by unfold mnV nS nR nN; rw [e91]
  by_cases h : k < mnV V
  · have := q_runLever (d := d) (Q := Q) hIH Vw.rf (r := r) (k := k) (by rw [eU]; exact hr) (by rw [eM]; exact h)
    rw [e40] at this
    rw [this]
    have e1 : sidV H r k * lvr H (pwV H r) k = aTr V r k := by
      unfold aTr sidV lvr pwV
      rw [if_pos h, hS.cell 92 (fun _ => rfl), hS.cell 93 (fun _ => rfl), hS.cell 102 (fun _ => rfl), hS.cell 103 (fun _ => rfl)]
    have ha := aTr_rng hI.m (k := k) hr
    rw [e1]
    unfold bX at ha
    generalize aTr V r k = x at ha ⊢
    rw [w64_id (by clear this e1; omega) (by clear this e1; omega)]
  · have := q_rlOff (d := d) (Q := Q) hIH Vw.rf (r := r) (k := k) (by rw [eU]; exact hr) (by rw [eM]; exact Nat.not_lt.mp h)
    rw [e40] at this
    rw [this]
    unfold aTr
    rw [if_neg h]
theorem q_swT (hI : Inq V) (hS : Fx sTR V H) {r : Nat} (hr : r < nU V) : CC d PL_swungOf [va (V 4 0), vi r] H Q = Q (vl (V 104 (8 + r))) H := by
  have hIH := hI.vq (tr_vq hS)
  have e40 : H 4 0 = V 4 0 := hS 4 0 rfl
  have eU : nU H = nU V := by unfold nU nN; rw [hS.cell 91 (fun _ => rfl)]
  have := q_swung (d := d) (Q := Q) hIH Vw.rf (r := r) (by rw [eU]; exact hr)
  rw [e40, hS.cell 104 (fun _ => rfl)] at this
  exact this
set_option maxRecDepth 20000 in
theorem c_fillI {a x : Int} {n : Nat} (e1 : sht a = 1) (e2 : shl a = n) (hn : n < 100000) (hQ : ∀ H', (∀ c : Int, c ≠ a → H' c = H c) → (∀ k : Nat, k < n → H' a k = x) → Q vu H') : CC d JK_fillI [va a, vi x] H Q := by
  simp only [en_JK_fillI, e_JK_fillI_0, k_JK_fillI_0, rr, sh, Nat.reduceLT, Nat.reduceMul, Int.reduceToNat, Int.reduceGT, Int.reduceGE, Int.reduceNe, true_and, and_true, true_or, or_true, false_or, or_false, and_self, or_self, if_true, if_false, reduceIte, not_true_eq_false, not_false_eq_true, Int.reduceEq, Int.reduceNe, Int.reduceLT, Int.reduceLE, Int.reduceAdd, Int.reduceSub, Int.reduceMul, Int.reduceNeg, Nat.reduceAdd, Nat.reduceLeDiff, Nat.reduceEqDiff, ne_eq, List.length_cons, List.length_nil, Nat.reduceSub, e1, e2]
  refine up_nat (P := fun k => ∀ H', (∀ c : Int, c ≠ a → H' c = H c) → (∀ q : Nat, q < k → H' a q = x) → R d JK_fillI (blk JK_fillI 1) [va a, vi x, vi k, vi n] [] H' Q) ?_ ?_ 0 (Nat.zero_le n) H (fun _ _ => rfl) (fun q hq => absurd hq (Nat.not_lt_zero q))
  · intro H' a1 a2
    rw [e_JK_fillI_1]
    simp only [k_JK_fillI_1, e_JK_fillI_2, k_JK_fillI_2, rr, sh, Nat.reduceLT, Nat.reduceMul, Int.reduceToNat, Int.reduceGT, Int.reduceGE, Int.reduceNe, true_and, and_true, true_or, or_true, false_or, or_false, and_self, or_self, if_true, if_false, reduceIte, not_true_eq_false, not_false_eq_true, Int.reduceEq, Int.reduceNe, Int.reduceLT, Int.reduceLE, Int.reduceAdd, Int.reduceSub, Int.reduceMul, Int.reduceNeg, Nat.reduceAdd, Nat.reduceLeDiff, Nat.reduceEqDiff, ne_eq, List.length_cons, List.length_nil, Nat.reduceSub, Int.le_refl]
    exact hQ H' a1 a2
  · intro k hk ih H' a1 a2
    have c1 : ¬ (n : Int) ≤ k := Int.not_le.mpr (Int.ofNat_lt.mpr hk)
    have jk : 0 ≤ (k : Int) ∧ (k : Int) < n := ⟨Int.natCast_nonneg _, Int.ofNat_lt.mpr hk⟩
    have kk := w32_s (n := k) (Nat.lt_trans hk (Nat.lt_trans hn (by decide)))
    rw [e_JK_fillI_1]
    simp only [k_JK_fillI_1, rr, sh, Nat.reduceLT, Nat.reduceMul, Int.reduceToNat, Int.reduceGT, Int.reduceGE, Int.reduceNe, true_and, and_true, true_or, or_true, false_or, or_false, and_self, or_self, if_true, if_false, reduceIte, not_true_eq_false, not_false_eq_true, Int.reduceEq, Int.reduceNe, Int.reduceLT, Int.reduceLE, Int.reduceAdd, Int.reduceSub, Int.reduceMul, Int.reduceNeg, Nat.reduceAdd, Nat.reduceLeDiff, Nat.reduceEqDiff, ne_eq, List.length_cons, List.length_nil, Nat.reduceSub, c1, e1, e2, jk, kk]
    refine ih _ (fun c hc => (hs_ne hc).trans (a1 c hc)) fun q hq => ?_
    rw [hs_at]
    by_cases e : q = k
    · subst e; rw [if_pos rfl]
    · rw [if_neg (fun z => e (Int.ofNat_inj.mp z))]
      exact a2 q (Nat.lt_of_le_of_ne (Nat.le_of_lt_succ hq) e)
def bdR (V H : Hp) (r u : Nat) : Prop := (∀ k : Nat, u ≤ k → k < nR V → H 61 ((6 * r + k : Nat) : Int) = aTr V r k) ∧ ∀ k : Nat, u ≤ k → k ≤ nR V → H 62 ((7 * r + k : Nat) : Int) = loB V r k (nR V - k) ∧ H 63 ((7 * r + k : Nat) : Int) = hiB V r k (nR V - k)
set_option maxRecDepth 20000 in
theorem c_setBounds (hI : Inq V) (hS : Fx sTR V H) (hnR : nR V ≤ 6) {r : Nat} (hr : r < nU V) (hQ : ∀ H', Fx sTR V H' → H' 59 = H 59 → H' 64 = H 64 → H' 65 = H 65 → (∀ r' : Nat, r' < r → bdR V H r' 0 → bdR V H' r' 0) → bdR V H' r 0 → Q vu H') : CC (d + 3) TR_setBounds [va 58, va (V 4 0), vi r] H Q := by
  have hu := hI.boat.u
  have z1 := shp hI
  have f := trF hI hS
  have w1 : w32 (w32 ((r : Int) * 7) + (nR V : Int)) = ((7 * r + nR V : Nat) : Int) := by
    clear z1 f hQ
    rw [w32_id (x := (r : Int) * 7) (by omega) (by omega), w32_id (by omega) (by omega)]; omega
  have j1 : 0 ≤ ((7 * r + nR V : Nat) : Int) ∧ ((7 * r + nR V : Nat) : Int) < 56 := by clear z1 f hQ w1; omega
  have wn : w32 ((nR V : Int) - 1) = (nR V : Int) - 1 := w32_id (by clear z1 f hQ w1; omega) (by clear z1 f hQ w1; omega)
  have y4 : ∀ v, hs H 62 ((7 * r + nR V : Nat) : Int) v 58 4 = 63 := fun v => (hs_ne' (by decide)).trans f.2.2.2.1
  have pne : V 4 0 ≠ 62 ∧ V 4 0 ≠ 63 := by rcases hI.pp with e | e <;> rw [e] <;> decide
  have y6 : ∀ v u, hs (hs H 62 ((7 * r + nR V : Nat) : Int) v) 63 ((7 * r + nR V : Nat) : Int) u (V 4 0) 6 = nR V := fun v u => by rw [hs_ne pne.2, hs_ne pne.1]; exact f.2.2.2.2.2.2.1
  simp only [en_TR_setBounds, e_TR_setBounds_0, k_TR_setBounds_0, rr, sh, Nat.reduceLT, Nat.reduceMul, Int.reduceToNat, Int.reduceGT, Int.reduceGE, Int.reduceNe, true_and, and_true, true_or, or_true, false_or, or_false, and_self, or_self, if_true, if_false, reduceIte, not_true_eq_false, not_false_eq_true, Int.reduceEq, Int.reduceNe, Int.reduceLT, Int.reduceLE, Int.reduceAdd, Int.reduceSub, Int.reduceMul, Int.reduceNeg, Nat.reduceAdd, Nat.reduceLeDiff, Nat.reduceEqDiff, ne_eq, List.length_cons, List.length_nil, Nat.reduceSub, z1, f.2.2.2.2.2.2.1, w1, f.2.2.1, y4, j1, y6, wn]
  have key := dn_nat (P := fun u => u ≤ nR V → ∀ (H' : Hp) (x : AV), Fx sTR V H' → H' 59 = H 59 → H' 64 = H 64 → H' 65 = H 65 → (∀ r' : Nat, r' < r → bdR V H r' 0 → bdR V H' r' 0) → bdR V H' r u → R (d + 3) TR_setBounds (blk TR_setBounds 1) [va 58, va (V 4 0), vi r, vi ((7 * r + u : Nat) : Int), vi ((u : Int) - 1), x, vu] [] H' Q) (lo := 0) ?_ ?_ (nR V) (Nat.zero_le _) (Nat.le_refl _) (hs (hs H 62 ((7 * r + nR V : Nat) : Int) 0) 63 ((7 * r + nR V : Nat) : Int) 0) vu ((hS.hs (c := 62) rfl).hs (c := 63) rfl) ?_ ?_ ?_ (fun r' hr' hb => ?_) ?_
  · exact key
  · intro _ H' x a1 a2 a3 a4 a5 a6
    have c1 : ((0 : Nat) : Int) - 1 < 0 := by decide
    rw [e_TR_setBounds_1]
    simp only [k_TR_setBounds_1, e_TR_setBounds_2, k_TR_setBounds_2, rr, sh, Nat.reduceLT, Nat.reduceMul, Int.reduceToNat, Int.reduceGT, Int.reduceGE, Int.reduceNe, true_and, and_true, true_or, or_true, false_or, or_false, and_self, or_self, if_true, if_false, reduceIte, not_true_eq_false, not_false_eq_true, Int.reduceEq, Int.reduceNe, Int.reduceLT, Int.reduceLE, Int.reduceAdd, Int.reduceSub, Int.reduceMul, Int.reduceNeg, Nat.reduceAdd, Nat.reduceLeDiff, Nat.reduceEqDiff, ne_eq, List.length_cons, List.length_nil, Nat.reduceSub, c1]
    exact hQ H' a1 a2 a3 a4 a5 a6
  · intro u hu0 ih hun H' x a1 a2 a3 a4 a5 a6
    obtain ⟨k, rfl⟩ : ∃ k, u = k + 1 := ⟨u - 1, by clear z1 f hQ w1 ih a5 a6 wn; omega⟩
    have hk : k < nR V := hun
    have ek : ((k + 1 : Nat) : Int) - 1 = k := by clear z1 f hQ w1 ih a5 a6 wn; omega
    rw [ek]
    have c1 : ¬ (k : Int) < 0 := by clear z1 f hQ w1 ih a5 a6 wn; omega
    have wi : w32 (w32 ((r : Int) * 6) + k) = ((6 * r + k : Nat) : Int) := by
      rw [w32_id (x := (r : Int) * 6) (by clear z1 f hQ w1 ih a5 a6 wn; omega) (by clear z1 f hQ w1 ih a5 a6 wn; omega), w32_id (by clear z1 f hQ w1 ih a5 a6 wn; omega) (by clear z1 f hQ w1 ih a5 a6 wn; omega)]
      clear z1 f hQ w1 ih a5 a6 wn; omega
    have ji : 0 ≤ ((6 * r + k : Nat) : Int) ∧ ((6 * r + k : Nat) : Int) < 48 := by clear z1 f hQ w1 ih a5 a6 wn wi; omega
    have wk : w32 (((7 * r + (k + 1) : Nat) : Int) + -1) = ((7 * r + k : Nat) : Int) := by rw [w32_id (by clear z1 f hQ w1 ih a5 a6 wn wi; omega) (by clear z1 f hQ w1 ih a5 a6 wn wi; omega)]; clear z1 f hQ w1 ih a5 a6 wn wi; omega
    have wk1 : w32 (((7 * r + k : Nat) : Int) + 1) = ((7 * r + (k + 1) : Nat) : Int) := by rw [w32_id (by clear z1 f hQ w1 ih a5 a6 wn wi wk; omega) (by clear z1 f hQ w1 ih a5 a6 wn wi wk; omega)]; clear z1 f hQ w1 ih a5 a6 wn wi wk; omega
    have jk : 0 ≤ ((7 * r + k : Nat) : Int) ∧ ((7 * r + k : Nat) : Int) < 56 := by clear z1 f hQ w1 ih a5 a6 wn wi wk wk1; omega
    have jk1 : 0 ≤ ((7 * r + (k + 1) : Nat) : Int) ∧ ((7 * r + (k + 1) : Nat) : Int) < 56 := by clear z1 f hQ w1 ih a5 a6 wn wi wk wk1; omega
    have wdn : w32 ((k : Int) + -1) = (k : Int) - 1 := w32_id (by clear z1 f hQ w1 ih a5 a6 wn wi wk wk1; omega) (by clear z1 f hQ w1 ih a5 a6 wn wi wk wk1; omega)
    obtain ⟨l1, l2⟩ := a6.2 (k + 1) (Nat.le_refl _) hun
    have hJ : nR V - k = nR V - (k + 1) + 1 := by clear z1 f hQ w1 ih a5 a6 wn wi wk wk1 wdn l1 l2; omega
    have ha := aTr_rng hI.m (k := k) hr
    have hlr := lohi_rng hI.m (k := k + 1) hr (nR V - (k + 1)) (Nat.le_trans (Nat.sub_le _ _) hnR)
    have hlh := lohi V r (k + 1) (nR V - (k + 1))
    have wa1 : w64 (aTr V r k * 1) = aTr V r k * 1 := by unfold bX at ha; exact w64_id (by clear z1 f hQ w1 ih a5 a6 wn wi wk wk1 wdn l1 l2 hlr hlh; omega) (by clear z1 f hQ w1 ih a5 a6 wn wi wk wk1 wdn l1 l2 hlr hlh; omega)
    have wa9 : w64 (aTr V r k * 9) = aTr V r k * 9 := by unfold bX at ha; exact w64_id (by clear z1 f hQ w1 ih a5 a6 wn wi wk wk1 wdn l1 l2 hlr hlh wa1; omega) (by clear z1 f hQ w1 ih a5 a6 wn wi wk wk1 wdn l1 l2 hlr hlh wa1; omega)
    have wlo : w64 (loB V r (k + 1) (nR V - (k + 1)) + min (aTr V r k * 1) (aTr V r k * 9)) = loB V r k (nR V - k) := by
      rw [hJ, loB_s.1, Int.add_comm]
      unfold bX at ha
      generalize loB V r (k + 1) (nR V - (k + 1)) = y at *
      generalize hiB V r (k + 1) (nR V - (k + 1)) = z at *
      exact w64_id (by clear z1 f hQ w1 ih a5 a6 wn wi wk wk1 wdn l1 l2 wa1 wa9 hJ; omega) (by clear z1 f hQ w1 ih a5 a6 wn wi wk wk1 wdn l1 l2 wa1 wa9 hJ; omega)
    have whi : w64 (hiB V r (k + 1) (nR V - (k + 1)) + max (aTr V r k * 1) (aTr V r k * 9)) = hiB V r k (nR V - k) := by
      rw [hJ, loB_s.2, Int.add_comm]
      unfold bX at ha
      generalize loB V r (k + 1) (nR V - (k + 1)) = y at *
      generalize hiB V r (k + 1) (nR V - (k + 1)) = z at *
      exact w64_id (by clear z1 f hQ w1 ih a5 a6 wn wi wk wk1 wdn l1 l2 wa1 wa9 hJ wlo; omega) (by clear z1 f hQ w1 ih a5 a6 wn wi wk wk1 wdn l1 l2 wa1 wa9 hJ wlo; omega)
    have fH := trF hI a1
    have x1 : ∀ v, hs H' 61 ((6 * r + k : Nat) : Int) v 58 3 = 62 := fun v => (hs_ne' (by decide)).trans fH.2.2.1
    have x2 : ∀ v, hs H' 61 ((6 * r + k : Nat) : Int) v 62 ((7 * r + (k + 1) : Nat) : Int) = loB V r (k + 1) (nR V - (k + 1)) := fun v => (hs_ne' (by decide)).trans l1
    have x3 : ∀ v w, hs (hs H' 61 ((6 * r + k : Nat) : Int) v) 62 ((7 * r + k : Nat) : Int) w 58 4 = 63 := fun v w => ((hs_ne' (by decide)).trans (hs_ne' (by decide))).trans fH.2.2.2.1
    have x4 : ∀ v w, hs (hs H' 61 ((6 * r + k : Nat) : Int) v) 62 ((7 * r + k : Nat) : Int) w 63 ((7 * r + (k + 1) : Nat) : Int) = hiB V r (k + 1) (nR V - (k + 1)) := fun v w => ((hs_ne' (by decide)).trans (hs_ne' (by decide))).trans l2
    rw [e_TR_setBounds_1]
    simp only [k_TR_setBounds_1, rr, sh, Nat.reduceLT, Nat.reduceMul, Int.reduceToNat, Int.reduceGT, Int.reduceGE, Int.reduceNe, true_and, and_true, true_or, or_true, false_or, or_false, and_self, or_self, if_true, if_false, reduceIte, not_true_eq_false, not_false_eq_true, Int.reduceEq, Int.reduceNe, Int.reduceLT, Int.reduceLE, Int.reduceAdd, Int.reduceSub, Int.reduceMul, Int.reduceNeg, Nat.reduceAdd, Nat.reduceLeDiff, Nat.reduceEqDiff, ne_eq, List.length_cons, List.length_nil, Nat.reduceSub, z1, c1, q_rlT hI a1 hr, fH.2.1, wi, ji, wk, x1, x2, x3, x4, wk1, jk, jk1, wa1, wa9, q_minL, q_maxL, wlo, whi, wdn]
    refine ih (Nat.le_of_succ_le hun) _ _ (((a1.hs (c := 61) rfl).hs (c := 62) rfl).hs (c := 63) rfl) ?_ ?_ ?_ (fun r' hr' hb => ?_) ⟨fun q q1 q2 => ?_, fun q q1 q2 => ?_⟩
    · rw [hs_ne (by decide), hs_ne (by decide), hs_ne (by decide)]; exact a2
    · rw [hs_ne (by decide), hs_ne (by decide), hs_ne (by decide)]; exact a3
    · rw [hs_ne (by decide), hs_ne (by decide), hs_ne (by decide)]; exact a4
    · obtain ⟨g1, g2⟩ := a5 r' hr' hb
      refine ⟨fun q q1 q2 => ?_, fun q q1 q2 => ?_⟩
      · have n1 : ¬ ((6 * r' + q : Nat) : Int) = ((6 * r + k : Nat) : Int) := by clear z1 f hQ w1 ih a5 a6 wn wi wk wk1 wdn l1 l2 wa1 wa9 hJ wlo whi g1 g2 hlr hlh ha fH x1 x2 x3 x4; omega
        rw [hs_ne' (by decide), hs_ne' (by decide), hs_at, if_neg n1]; exact g1 q q1 q2
      · have n1 : ¬ ((7 * r' + q : Nat) : Int) = ((7 * r + k : Nat) : Int) := by clear z1 f hQ w1 ih a5 a6 wn wi wk wk1 wdn l1 l2 wa1 wa9 hJ wlo whi g1 g2 hlr hlh ha fH x1 x2 x3 x4; omega
        rw [hs_ne' (by decide), hs_at, if_neg n1, hs_ne' (by decide), hs_at, if_neg n1, hs_ne' (by decide), hs_ne' (by decide)]; exact g2 q q1 q2
    · rw [hs_ne' (by decide), hs_ne' (by decide), hs_at]
      by_cases e : q = k
      · subst e; rw [if_pos rfl]
      · have n1 : ¬ ((6 * r + q : Nat) : Int) = ((6 * r + k : Nat) : Int) := by clear z1 f hQ w1 ih a5 a6 wn wi wk wk1 wdn l1 l2 wa1 wa9 hJ wlo whi hlr hlh ha fH x1 x2 x3 x4; omega
        rw [if_neg n1]
        exact a6.1 q (Nat.lt_of_le_of_ne q1 (fun z => e z.symm)) q2
    · rw [hs_ne' (by decide), hs_at, hs_at, hs_ne' (by decide), hs_ne' (by decide)]
      by_cases e : q = k
      · subst e; rw [if_pos rfl, if_pos rfl]; exact ⟨rfl, rfl⟩
      · have n1 : ¬ ((7 * r + q : Nat) : Int) = ((7 * r + k : Nat) : Int) := by clear z1 f hQ w1 ih a5 a6 wn wi wk wk1 wdn l1 l2 wa1 wa9 hJ wlo whi hlr hlh ha fH x1 x2 x3 x4; omega
        rw [if_neg n1, if_neg n1]
        exact a6.2 q (Nat.lt_of_le_of_ne q1 (fun z => e z.symm)) q2
  · rw [hs_ne (by decide), hs_ne (by decide)]
  · rw [hs_ne (by decide), hs_ne (by decide)]
  · rw [hs_ne (by decide), hs_ne (by decide)]
  · obtain ⟨g1, g2⟩ := hb
    refine ⟨fun q q1 q2 => ?_, fun q q1 q2 => ?_⟩
    · rw [hs_ne' (by decide), hs_ne' (by decide)]; exact g1 q q1 q2
    · have n1 : ¬ ((7 * r' + q : Nat) : Int) = ((7 * r + nR V : Nat) : Int) := by clear z1 f hQ w1 wn g1 g2; omega
      rw [hs_ne' (by decide), hs_at, if_neg n1, hs_at, if_neg n1, hs_ne' (by decide)]; exact g2 q q1 q2
  · refine ⟨fun q q1 q2 => absurd q2 (Nat.not_lt.mpr q1), fun q q1 q2 => ?_⟩
    obtain rfl : q = nR V := Nat.le_antisymm q2 q1
    rw [hs_ne' (by decide), hs_same, hs_same, Nat.sub_self]
    exact ⟨rfl, rfl⟩
end TC
