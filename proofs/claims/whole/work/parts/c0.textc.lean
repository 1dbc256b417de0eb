/-! THE BOAT'S TEXT: the class's call -/
def sCE (p a b : Int) : Bool := sCX p a b || (decide (a = 70) || ((decide (a = 1) && (decide (b = 11) || decide (b = 12))) || (decide (a = 2) && decide (b = 1))))
def sCO (p a b : Int) : Bool := sCX p a b || (sBD a b || ((decide (a = 58) && decide (b = 7)) || ((decide (a = 1) && (decide (b = 2) || (decide (b = 11) || decide (b = 12)))) || (decide (a = 2) && decide (b = 1)))))
section PW
variable {d : Nat} {V P H : Hp} {p : Int} {Q : AV → Hp → Prop}
theorem sCX_ce (p a b : Int) (h : sCX p a b = true) : sCE p a b = true := by unfold sCE; rw [h]; rfl
theorem sCX_co (p a b : Int) (h : sCX p a b = true) : sCO p a b = true := by unfold sCO; rw [h]; rfl
theorem sBD_co (p a b : Int) (h : sBD a b = true) : sCO p a b = true := by unfold sCO; rw [h]; simp
theorem ptr_ce {H' : Hp} (hp : p = 5 ∨ p = 25) (h : Ptr H) (hF : Fx (sCE p) H H') : Ptr H' := by
  rcases hp with rfl | rfl
  · exact ptr_fx h hF (by decide +kernel)
  · exact ptr_fx h hF (by decide +kernel)
theorem ptr_co {H' : Hp} (hp : p = 5 ∨ p = 25) (h : Ptr H) (hF : Fx (sCO p) H H') : Ptr H' := by
  rcases hp with rfl | rfl
  · exact ptr_fx h hF (by decide +kernel)
  · exact ptr_fx h hF (by decide +kernel)
theorem sCX_n (hp : p = 5 ∨ p = 25) {a b : Int} (h : ¬ (a = 2 ∧ 2 ≤ b ∧ b ≤ 7)) (h2 : ¬ (5 ≤ a ∧ a ≤ 17)) (h3 : ¬ (25 ≤ a ∧ a ≤ 37)) : sCX p a b = false := by
  unfold sCX
  rw [sPX_o (by omega), Bool.or_false]
  unfold sLX
  by_cases c : a = 2
  · rw [if_pos c]
    by_cases c2 : 2 ≤ b
    · rw [decide_eq_true c2, decide_eq_false (fun z => h ⟨c, c2, z⟩)]; rfl
    · rw [decide_eq_false c2]; rfl
  · rw [if_neg c]
set_option maxRecDepth 20000 in
theorem c_EOtext (hp : p = 5 ∨ p = 25) (h12 : V 1 2 = p) (hT : TapeR V) (hP : Ptr V) (hB : BoatM V)
    (he : ∀ kk pl, txO V 70 0 (-1) (P0T V) = .error (kk, pl) → ∀ H', Fx (sCE p) V H' → H' 1 11 = kk → H' 1 12 = pl → H' 2 1 = 0 → (∀ b, H' 70 b = if b = 1 then w32 (V 70 1 + 1) else V 70 b) → Q (vi (-1)) H')
    (ho : ∀ n P', txO V 70 0 (-1) (P0T V) = .ok (n, P') → ∀ H', Fx (sCO p) V H' → H' 1 11 = 0 → H' 1 12 = -1 → H' 2 1 = 0 → H' 1 2 = V 4 0 → H' 4 0 = p → H' 4 3 = 0 → H' 4 4 = 0 → H' 4 11 = 0 → H' 58 7 = 0 → (∀ i : Nat, i < 12 → H' 18 i = siT P' i ∧ (i < sTx P' → H' 19 i = if rgB P' i = true then 1 else 0)) → PlT P' H' p → Q (vi n) H') : CC (d + 8) EO_text [va 1] V Q := by
  have e10 : V 1 0 = 2 := hP (1, 0, 2) (by decide +kernel)
  simp only [en_EO_text, e_EO_text_0, k_EO_text_0, rr, sh, Nat.reduceLT, Nat.reduceMul, Int.reduceToNat, Int.reduceGT, Int.reduceGE, Int.reduceNe, true_and, and_true, true_or, or_true, false_or, or_false, and_self, or_self, if_true, if_false, reduceIte, not_true_eq_false, not_false_eq_true, Int.reduceEq, Int.reduceNe, Int.reduceLT, Int.reduceLE, Int.reduceAdd, Int.reduceSub, Int.reduceMul, Int.reduceNeg, Nat.reduceAdd, Nat.reduceLeDiff, Nat.reduceEqDiff, ne_eq, List.length_cons, List.length_nil, Nat.reduceSub, e10, h12]
  refine c_readC (d := d) hp hT hP hB (fun kk pl z H' hF q6 q7 => ?_) (fun n P' z H' hF q6 q7 hL => ?_)
  · have g10 : H' 1 0 = 2 := (hF 1 0 (sCX_n hp (by omega) (by omega) (by omega))).trans e10
    have g1 : H' 1 10 = 70 := (hF 1 10 (sCX_n hp (by omega) (by omega) (by omega))).trans (hP (1, 10, 70) (by decide +kernel))
    have c70 : H' 70 = V 70 := hF.cell 70 (fun b => sCX_n hp (by omega) (by omega) (by omega))
    have := he kk pl z (hs (hs (hs (hs H' 1 11 kk) 1 12 pl) 2 1 0) 70 1 (w32 (H' 70 1 + 1))) (((((hF.up (sCX_ce p)).hs (c := 1) (j := 11) (by unfold sCE; simp)).hs (c := 1) (j := 12) (by unfold sCE; simp)).hs (c := 2) (j := 1) (by unfold sCE; simp)).hs (c := 70) (j := 1) (by unfold sCE; simp)) (by simp only [hs_app, Int.reduceEq, Int.reduceAdd, and_false, false_and, and_true, true_and, if_false, if_true, reduceIte, eq_self, and_self]) (by simp only [hs_app, Int.reduceEq, Int.reduceAdd, and_false, false_and, and_true, true_and, if_false, if_true, reduceIte, eq_self, and_self]) (by simp only [hs_app, Int.reduceEq, Int.reduceAdd, and_false, false_and, and_true, true_and, if_false, if_true, reduceIte, eq_self, and_self]) (fun b => by rw [hs_at, hs_ne' (by decide), hs_ne' (by decide), hs_ne' (by decide), c70])
    simp only [en_EO_keepFault, e_EO_keepFault_0, k_EO_keepFault_0, en_TP_clear, e_TP_clear_0, k_TP_clear_0, en_EO_refuse, e_EO_refuse_0, k_EO_refuse_0, e_EO_refuse_1, k_EO_refuse_1, rr, sh, Nat.reduceLT, Nat.reduceMul, Int.reduceToNat, Int.reduceGT, Int.reduceGE, Int.reduceNe, true_and, and_true, true_or, or_true, false_or, or_false, and_self, or_self, if_true, if_false, reduceIte, not_true_eq_false, not_false_eq_true, Int.reduceEq, Int.reduceNe, Int.reduceLT, Int.reduceLE, Int.reduceAdd, Int.reduceSub, Int.reduceMul, Int.reduceNeg, Nat.reduceAdd, Nat.reduceLeDiff, Nat.reduceEqDiff, ne_eq, List.length_cons, List.length_nil, Nat.reduceSub, hs_app, false_and, and_false, g10, g1, q6, q7]
    exact this
  · have nn : ¬ (n : Int) = -1 := fun z => absurd (z ▸ Int.natCast_nonneg n) (by decide)
    have g : ∀ b : Int, H' 1 b = V 1 b := fun b => hF 1 b (sCX_n hp (by omega) (by omega) (by omega))
    have g10 : H' 1 0 = 2 := (g 0).trans e10
    have g11 : H' 1 1 = 4 := (g 1).trans (hP (1, 1, 4) (by decide +kernel))
    have g12 : H' 1 2 = p := (g 2).trans h12
    have g18 : H' 1 8 = 58 := (g 8).trans (hP (1, 8, 58) (by decide +kernel))
    have g40 : H' 4 0 = V 4 0 := hF 4 0 (sCX_n hp (by omega) (by omega) (by omega))
    have pn : p ≠ 1 ∧ p ≠ 2 := by rcases hp with rfl | rfl <;> decide
    have F3 : Fx (sCO p) V (hs (hs (hs H' 1 11 0) 1 12 (-1)) 2 1 0) := (((hF.up (sCX_co p)).hs (c := 1) (j := 11) (by unfold sCO; simp)).hs (c := 1) (j := 12) (by unfold sCO; simp)).hs (c := 2) (j := 1) (by unfold sCO; simp)
    have hP3 := ptr_co hp hP F3
    have hL3 : PlT P' (hs (hs (hs H' 1 11 0) 1 12 (-1)) 2 1 0) p := hL.cg (fun a h1 h2 => by rw [hs_ne (by omega), hs_ne (by omega), hs_ne (by omega)])
    have hB' := txO_B 70 0 (-1) (P0T V) (P0T_B hB) z
    simp only [e_EO_text_1, k_EO_text_1, en_EO_keepFault, e_EO_keepFault_0, k_EO_keepFault_0, en_TP_clear, e_TP_clear_0, k_TP_clear_0, rr, sh, Nat.reduceLT, Nat.reduceMul, Int.reduceToNat, Int.reduceGT, Int.reduceGE, Int.reduceNe, true_and, and_true, true_or, or_true, false_or, or_false, and_self, or_self, if_true, if_false, reduceIte, not_true_eq_false, not_false_eq_true, Int.reduceEq, Int.reduceNe, Int.reduceLT, Int.reduceLE, Int.reduceAdd, Int.reduceSub, Int.reduceMul, Int.reduceNeg, Nat.reduceAdd, Nat.reduceLeDiff, Nat.reduceEqDiff, ne_eq, List.length_cons, List.length_nil, Nat.reduceSub, hs_app, false_and, and_false, g10, g11, g12, g40, q6, q7, nn]
    have v : hs (hs (hs H' 1 11 0) 1 12 (-1)) 2 1 0 1 11 = 0 ∧ hs (hs (hs H' 1 11 0) 1 12 (-1)) 2 1 0 1 12 = -1 ∧ hs (hs (hs H' 1 11 0) 1 12 (-1)) 2 1 0 2 1 = 0 ∧ hs (hs (hs H' 1 11 0) 1 12 (-1)) 2 1 0 1 8 = 58 ∧ hs (hs (hs H' 1 11 0) 1 12 (-1)) 2 1 0 1 1 = 4 := by simp only [hs_app, Int.reduceEq, Int.reduceAdd, and_false, false_and, and_true, true_and, if_false, if_true, reduceIte, eq_self, and_self, g18, g11]
    generalize hs (hs (hs H' 1 11 0) 1 12 (-1)) 2 1 0 = X at *
    obtain ⟨v1, v2, v3, v4, v5⟩ := v
    refine c_board (d := d + 4) hp hP3 hB' hL3 (fun Y hY y0 y3 y4 y11 yk => ?_)
    have u : ∀ b, Y 1 b = X 1 b := fun b => hY 1 b (by unfold sBD; rfl)
    have u4 : Y 1 8 = 58 := (u 8).trans v4
    have F5 : Fx (sCO p) V (hs (hs Y 1 2 (V 4 0)) 58 7 0) := ((F3.tr (hY.up (sBD_co p))).hs (c := 1) (j := 2) (by unfold sCO; simp)).hs (c := 58) (j := 7) (by unfold sCO; simp)
    have pm : ∀ a, p ≤ a → a ≤ p + 12 → a ≠ 1 ∧ a ≠ 58 ∧ a ≠ 4 ∧ a ≠ 18 ∧ a ≠ 19 := fun a h1 h2 => by rcases hp with rfl | rfl <;> omega
    have := ho n P' z _ F5 ?_ ?_ ?_ ?_ ?_ ?_ ?_ ?_ hs_same (fun i hi => ?_) (hL3.cg (fun a h1 h2 => ?_))
    · simp only [en_TR_forget, e_TR_forget_0, k_TR_forget_0, rr, sh, Nat.reduceLT, Nat.reduceMul, Int.reduceToNat, Int.reduceGT, Int.reduceGE, Int.reduceNe, true_and, and_true, true_or, or_true, false_or, or_false, and_self, or_self, if_true, if_false, reduceIte, not_true_eq_false, not_false_eq_true, Int.reduceEq, Int.reduceNe, Int.reduceLT, Int.reduceLE, Int.reduceAdd, Int.reduceSub, Int.reduceMul, Int.reduceNeg, Nat.reduceAdd, Nat.reduceLeDiff, Nat.reduceEqDiff, ne_eq, List.length_cons, List.length_nil, Nat.reduceSub, hs_app, false_and, and_false, u4]
      exact this
    · rw [hs_ne' (by decide), hs2 (by decide), u]; exact v1
    · rw [hs_ne' (by decide), hs2 (by decide), u]; exact v2
    · rw [hs_ne' (by decide), hs_ne' (by decide), hY 2 1 rfl]; exact v3
    · rw [hs_ne' (by decide)]; exact hs_same
    · rw [hs_ne' (by decide), hs_ne' (by decide)]; exact y0
    · rw [hs_ne' (by decide), hs_ne' (by decide)]; exact y3
    · rw [hs_ne' (by decide), hs_ne' (by decide)]; exact y4
    · rw [hs_ne' (by decide), hs_ne' (by decide)]; exact y11
    · rw [hs_ne' (by decide), hs_ne' (by decide), hs_ne' (by decide), hs_ne' (by decide)]; exact yk i hi
    · have q := pm a h1 h2
      rw [hs_ne q.2.1, hs_ne q.1]
      exact hY.cell a (fun b => by unfold sBD; rw [decide_eq_false q.2.2.2.1, decide_eq_false q.2.2.2.2, decide_eq_false q.2.2.1]; rfl)
end PW
