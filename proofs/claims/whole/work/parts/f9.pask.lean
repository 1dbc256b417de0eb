/-! ask: the pair -/
section PA
variable {d : Nat} {V H : Hp}
theorem sQR_scr (a b : Int) (h : sQR a b = true) : scr a b = true := by
  unfold sQR sQC sLX at h
  by_cases c : a = 2
  · subst c
    have hb : b = 2 ∨ b = 3 ∨ b = 4 ∨ b = 5 ∨ b = 6 ∨ b = 7 := by
      simp at h
      omega
    rcases hb with rfl | rfl | rfl | rfl | rfl | rfl <;> rfl
  · rw [if_neg c] at h
    simp only [Bool.or_eq_true, Bool.and_eq_true, decide_eq_true_eq, Bool.false_eq_true, false_or] at h
    rcases h with (⟨rfl, rfl⟩ | rfl) | ⟨rfl, rfl⟩ <;> rfl
theorem sQN_scr (a b : Int) (h : sQN a b = true) : scr a b = true ∨ (a = 71 ∧ b = 1) := by
  unfold sQN sQM at h
  by_cases c : a = 71
  · subst c
    rw [if_pos rfl] at h
    simp only [Bool.or_eq_true, Bool.and_eq_true, decide_eq_true_eq, true_and] at h
    rcases h with (rfl | rfl | rfl | rfl | rfl | rfl | rfl | rfl | rfl | rfl) | rfl | rfl
    all_goals first | exact Or.inl rfl | exact Or.inr ⟨rfl, rfl⟩
  · rw [if_neg c] at h
    simp only [Bool.or_eq_true, Bool.and_eq_true, decide_eq_true_eq, c, false_and, or_false] at h
    rcases h with rfl | rfl <;> exact Or.inl rfl
/-- the state behind a question: what both saw -/
def vG (V : Hp) (kk pl : Int) : Hp := hs (hs (hs V 1 11 kk) 1 12 pl) 2 1 0
def vF (V : Hp) (kk pl : Int) : Hp := hs (hs (hs (vG V kk pl) 71 1 0) 71 7 kk) 71 8 pl
theorem vF_n {kk pl a : Int} (h1 : a ≠ 1) (h2 : a ≠ 2) (h3 : a ≠ 71) : vF V kk pl a = V a := by unfold vF vG; rw [hs_ne h3, hs_ne h3, hs_ne h3, hs_ne h2, hs_ne h1, hs_ne h1]
theorem vG_n {kk pl a : Int} (h1 : a ≠ 1) (h2 : a ≠ 2) : vG V kk pl a = V a := by unfold vG; rw [hs_ne h2, hs_ne h1, hs_ne h1]
theorem inv_ask (h : Inv0 V) (kk pl : Int) : Inv0 (vF V kk pl) := by
  obtain ⟨p, hp, h40⟩ : ∃ p : Int, (p = 5 ∨ p = 25) ∧ V 4 0 = 30 - p := by
    refine ⟨30 - V 4 0, ?_, by omega⟩
    rcases h.1.2.2.2.2.1 with e | e <;> rw [e] <;> decide
  have F : Fx (sER p) V (vF V kk pl) := (((((Fx.rf.hs (c := 1) (j := 11) (by unfold sER sCE; simp)).hs (c := 1) (j := 12) (by unfold sER sCE; simp)).hs (c := 2) (j := 1) (by unfold sER sCE; simp)).hs (c := 71) (j := 1) (by unfold sER sTxR; simp)).hs (c := 71) (j := 7) (by unfold sER; simp)).hs (c := 71) (j := 8) (by unfold sER; simp)
  refine inv_er h hp h40 F ?_ ?_ ?_ ?_ (fun k hk => ?_)
  · unfold vF vG; simp only [hs_app, Int.reduceEq, Int.reduceAdd, and_false, false_and, and_true, true_and, if_false, if_true, reduceIte, eq_self, and_self]
  · unfold vF vG; simp only [hs_app, Int.reduceEq, Int.reduceAdd, and_false, false_and, and_true, true_and, if_false, if_true, reduceIte, eq_self, and_self]
  · unfold vF vG; simp only [hs_app, Int.reduceEq, Int.reduceAdd, and_false, false_and, and_true, true_and, if_false, if_true, reduceIte, eq_self, and_self]
  · unfold vF vG; simp only [hs_app, Int.reduceEq, Int.reduceAdd, and_false, false_and, and_true, true_and, if_false, if_true, reduceIte, eq_self, and_self]
  · rw [vF_n (by decide) (by decide) (by decide), vF_n (by decide) (by decide) (by decide)]
    exact h.2.2.2.1 k hk
theorem vw_ask {kk pl : Int} {Y H2 : Hp} (hY : Vw (vG V kk pl) Y) (G : Fx sQN Y H2) (q1 : H2 71 1 = 0) : Vw (vF V kk pl) (hs (hs H2 71 7 kk) 71 8 pl) := by
  intro a b q
  unfold vF
  rw [hs_app, hs_app, hs_app, hs_app, hs_app]
  by_cases c8 : a = 71 ∧ b = 8
  · rw [if_pos c8, if_pos c8]
  · rw [if_neg c8, if_neg c8]
    by_cases c7 : a = 71 ∧ b = 7
    · rw [if_pos c7, if_pos c7]
    · rw [if_neg c7, if_neg c7]
      by_cases c1 : a = 71 ∧ b = 1
      · rw [if_pos c1, c1.1, c1.2]; exact q1
      · rw [if_neg c1, G a b (by
          cases e : sQN a b with
          | false => rfl
          | true =>
            rcases sQN_scr a b e with z | z
            · rw [z] at q; cases q
            · exact absurd z c1)]
        exact hY a b q
set_option maxRecDepth 20000 in
theorem p_ask (h : Inv0 V) : Pair V (d + 101) EO_ask MO_ask [va 1] [va 71] := by
  have hI := h.1
  have hT := h.2.1
  have hWd := h.2.2.2.2.2.2.2.1
  have e13 : V 1 3 = 38 := hI.ptr (1, 3, 38) (by decide +kernel)
  have e10 : V 1 0 = 2 := hI.ptr (1, 0, 2) (by decide +kernel)
  have e71 : V 71 1 = tpN V := hT.2.1.trans (tpN_eq hT)
  have c0 : ∀ kk pl a : Int, 91 ≤ a → a ≤ 107 → vG V kk pl a = V a := fun kk pl a h1 h2 => vG_n (by omega) (by omega)
  have c0' : ∀ kk pl a : Int, 91 ≤ a → a ≤ 107 → vF V kk pl a = V a := fun kk pl a h1 h2 => vF_n (by omega) (by omega) (by omega)
  have g71 : ∀ kk pl b : Int, vG V kk pl 71 b = V 71 b := fun kk pl b => by rw [vG_n (by decide) (by decide)]
  have qG : ∀ kk pl : Int, Vq V (vG V kk pl) := fun kk pl => ((Vq.rf.hs (c := 1) (j := 11) rfl).hs (c := 1) (j := 12) rfl).hs (c := 2) (j := 1) rfl
  have wG : ∀ kk pl : Int, Wds (vG V kk pl) := fun kk pl => wds_fx hWd (S := fun a b => (decide (a = 1) && (decide (b = 11) || decide (b = 12))) || (decide (a = 2) && decide (b = 1))) (((Fx.rf.hs (c := 1) (j := 11) rfl).hs (c := 1) (j := 12) rfl).hs (c := 2) (j := 1) rfl) (by decide +kernel)
  have vX : ∀ (kk pl : Int) (H' : Hp), Fx sQR V H' → Vw (vG V kk pl) (hs (hs (hs H' 1 11 kk) 1 12 pl) 2 1 0) := fun kk pl H' F => vw_both (vw_both (vw_both (fx_vw Vw.rf F sQR_scr)))
  unfold Pair
  rcases ask_read hT hI.ptr hI.boat with ⟨kk, pl, k0, hC, hM⟩ | ⟨w, cs, h5, ⟨hcl, n, hn, hw⟩, hC, hM⟩
  · simp only [en_EO_ask, e_EO_ask_0, k_EO_ask_0, rr, sh, Nat.reduceLT, Nat.reduceMul, Int.reduceToNat, Int.reduceGT, Int.reduceGE, Int.reduceNe, true_and, and_true, true_or, or_true, false_or, or_false, and_self, or_self, if_true, if_false, reduceIte, not_true_eq_false, not_false_eq_true, Int.reduceEq, Int.reduceNe, Int.reduceLT, Int.reduceLE, Int.reduceAdd, Int.reduceSub, Int.reduceMul, Int.reduceNeg, Nat.reduceAdd, Nat.reduceLeDiff, Nat.reduceEqDiff, ne_eq, List.length_cons, List.length_nil, Nat.reduceSub, e13, e10]
    refine hC d _ (fun H' F q6 q7 => ?_)
    have a10 : H' 1 0 = 2 := (F 1 0 rfl).trans e10
    have vx := vX kk pl H' F
    have e72 : hs (hs (hs H' 1 11 kk) 1 12 pl) 2 1 0 72 = V 72 := by
      rw [hs_ne (by decide), hs_ne (by decide), hs_ne (by decide)]
      exact F.cell 72 (fun _ => rfl)
    have e1 : hs (hs (hs H' 1 11 kk) 1 12 pl) 2 1 0 71 1 = tpN V := by rw [vx 71 1 rfl, g71]; exact e71
    have fin := hM (d + 91) _ (fun r2 H2 => vl (-1000000000000000) = r2 ∧ Inv0 H2) ((hI.ptr.vq (qG kk pl)).vw vx) ((wG kk pl).vw vx) e72 e1 (fun H2 y G q5 q6 q1 => c_askErr (d := d + 91) q5 q6 k0 ⟨rfl, (inv_ask h kk pl).vw (vw_ask vx G q1)⟩)
    simp only [e_EO_ask_1, k_EO_ask_1, e_EO_ask_2, k_EO_ask_2, en_EO_keepFault, e_EO_keepFault_0, k_EO_keepFault_0, en_TP_clear, e_TP_clear_0, k_TP_clear_0, rr, sh, Nat.reduceLT, Nat.reduceMul, Int.reduceToNat, Int.reduceGT, Int.reduceGE, Int.reduceNe, true_and, and_true, true_or, or_true, false_or, or_false, and_self, or_self, if_true, if_false, reduceIte, not_true_eq_false, not_false_eq_true, Int.reduceEq, Int.reduceNe, Int.reduceLT, Int.reduceLE, Int.reduceAdd, Int.reduceSub, Int.reduceMul, Int.reduceNeg, Nat.reduceAdd, Nat.reduceLeDiff, Nat.reduceEqDiff, ne_eq, List.length_cons, List.length_nil, Nat.reduceSub, hs_app, false_and, and_false, a10, q6, q7]
    exact fin
  · simp only [en_EO_ask, e_EO_ask_0, k_EO_ask_0, rr, sh, Nat.reduceLT, Nat.reduceMul, Int.reduceToNat, Int.reduceGT, Int.reduceGE, Int.reduceNe, true_and, and_true, true_or, or_true, false_or, or_false, and_self, or_self, if_true, if_false, reduceIte, not_true_eq_false, not_false_eq_true, Int.reduceEq, Int.reduceNe, Int.reduceLT, Int.reduceLE, Int.reduceAdd, Int.reduceSub, Int.reduceMul, Int.reduceNeg, Nat.reduceAdd, Nat.reduceLeDiff, Nat.reduceEqDiff, ne_eq, List.length_cons, List.length_nil, Nat.reduceSub, e13, e10]
    refine hC d _ (fun H' F q0 hK q6 q7 => ?_)
    have a10 : H' 1 0 = 2 := (F 1 0 rfl).trans e10
    have a13 : H' 1 3 = 38 := (F 1 3 rfl).trans e13
    have a11 : H' 1 1 = 4 := (F 1 1 rfl).trans (hI.ptr (1, 1, 4) (by decide +kernel))
    have vx := vX 0 (-1) H' F
    have i1 : Inq (vG V 0 (-1)) := hI.vq (qG 0 (-1))
    have kx : KoC (hs (hs (hs H' 1 11 0) 1 12 (-1)) 2 1 0) cs := ⟨by rw [hs_ne' (by decide), hs_ne' (by decide), hs_ne' (by decide)]; exact hK.1, fun k hk => by rw [hs_ne' (by decide), hs_ne' (by decide), hs_ne' (by decide)]; exact hK.2 k hk⟩
    have wx : hs (hs (hs H' 1 11 0) 1 12 (-1)) 2 1 0 38 0 = w := by rw [hs_ne' (by decide), hs_ne' (by decide), hs_ne' (by decide)]; exact q0
    have x13 : hs (hs (hs H' 1 11 0) 1 12 (-1)) 2 1 0 1 3 = 38 := by simp only [hs_app, Int.reduceEq, Int.reduceAdd, and_false, false_and, and_true, true_and, if_false, if_true, reduceIte, eq_self, and_self, a13]
    have x11 : hs (hs (hs H' 1 11 0) 1 12 (-1)) 2 1 0 1 1 = 4 := by simp only [hs_app, Int.reduceEq, Int.reduceAdd, and_false, false_and, and_true, true_and, if_false, if_true, reduceIte, eq_self, and_self, a11]
    have f47 : vF V 0 (-1) 71 47 = V 71 47 := by unfold vF; simp only [hs_app, Int.reduceEq, Int.reduceAdd, and_false, false_and, and_true, true_and, if_false, if_true, reduceIte, eq_self, and_self]; exact g71 0 (-1) 47
    have f49 : vF V 0 (-1) 71 49 = V 71 49 := by unfold vF; simp only [hs_app, Int.reduceEq, Int.reduceAdd, and_false, false_and, and_true, true_and, if_false, if_true, reduceIte, eq_self, and_self]; exact g71 0 (-1) 49
    simp only [en_EO_keepFault, e_EO_keepFault_0, k_EO_keepFault_0, en_TP_clear, e_TP_clear_0, k_TP_clear_0, rr, sh, Nat.reduceLT, Nat.reduceMul, Int.reduceToNat, Int.reduceGT, Int.reduceGE, Int.reduceNe, true_and, and_true, true_or, or_true, false_or, or_false, and_self, or_self, if_true, if_false, reduceIte, not_true_eq_false, not_false_eq_true, Int.reduceEq, Int.reduceNe, Int.reduceLT, Int.reduceLE, Int.reduceAdd, Int.reduceSub, Int.reduceMul, Int.reduceNeg, Nat.reduceAdd, Nat.reduceLeDiff, Nat.reduceEqDiff, ne_eq, List.length_cons, List.length_nil, Nat.reduceSub, hs_app, false_and, and_false, a10, a13, a11, q6, q7]
    refine c_answerC (d := d + 92) i1 vx hcl hn (WFq_cg (c0 0 (-1)) (g71 0 (-1) 49) hw) kx wx h5 (fun Y hY => ?_)
    have e72 : Y 72 = V 72 := by
      rw [show Y 72 = vG V 0 (-1) 72 from funext fun b => hY 72 b rfl]
      exact vG_n (by decide) (by decide)
    have e1 : Y 71 1 = tpN V := by rw [hY 71 1 rfl, g71]; exact e71
    have inv := inv_ask h 0 (-1)
    have fin := hM (d + 91) Y (fun r2 H2 => vl (ansQ (vG V 0 (-1)) w (vQ (vG V 0 (-1)) cs)) = r2 ∧ Inv0 H2) (i1.ptr.vw hY) ((wG 0 (-1)).vw hY) e72 e1 (fun H2 G k q5 q6 q1 => by
      refine c_askEnd (d := d + 91) inv.1.m (vw_ask hY G q1) q5 q6 hcl hn (WFq_cg (c0' 0 (-1)) f49 hw) k h5 (fun Z hZ => ⟨?_, inv.vw hZ⟩)
      rw [ans_cg (c0 0 (-1)) (g71 0 (-1) 49) (g71 0 (-1) 47), ans_cg (c0' 0 (-1)) f49 f47])
    simp only [e_EO_ask_2, k_EO_ask_2, rr, sh, Nat.reduceLT, Nat.reduceMul, Int.reduceToNat, Int.reduceGT, Int.reduceGE, Int.reduceNe, true_and, and_true, true_or, or_true, false_or, or_false, and_self, or_self, if_true, if_false, reduceIte, not_true_eq_false, not_false_eq_true, Int.reduceEq, Int.reduceNe, Int.reduceLT, Int.reduceLE, Int.reduceAdd, Int.reduceSub, Int.reduceMul, Int.reduceNeg, Nat.reduceAdd, Nat.reduceLeDiff, Nat.reduceEqDiff, ne_eq, List.length_cons, List.length_nil, Nat.reduceSub]
    exact fin
end PA
