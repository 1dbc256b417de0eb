/-! QUESTIONS: the reference's reading, whole; both readings -/
section QR3
variable {d : Nat} {V B H : Hp} {Q : AV → Hp → Prop} {a : Nat} {j : Int}
set_option maxRecDepth 20000 in
theorem c_qTest (hT : TapeR V) (hPB : Ptr B) (hWB : Wds B) {out : QO} (hR : RTest V a j 0 out) (hop : ∀ a' j' cs, out = .ok (a', j', cs) → ¬ wrI V a' j' QW = 7 ∧ ¬ wrI V a' j' QW = 6) (h : MQs V B H a j [] [] 0 0)
    (he : ∀ kk pl, out = .error (kk, pl) → ∀ H', Fx sQM B H' → H' 71 5 = kk → H' 71 6 = pl → Q vu H')
    (hk : ∀ a' j' cs, out = .ok (a', j', cs) → ∀ H', MQs V B H' a' j' (cs.map rco) [] 0 0 → Q vu H') : CC (d + 9) MO_qTest [va 71] H Q := by
  have t := hR B d Q [] [] hPB hWB (fun x hx => by cases hx) (Or.inl rfl) (Or.inl rfl) he (fun a' j' cs z cs1 s hm hs' => by
    obtain ⟨q7, q6⟩ := hop _ _ _ z
    refine gt_end hT hPB hWB q7 q6 (fun x hx y => ?_) (fun H' h' => hk _ _ _ z H' ?_)
    · have := hs' x hx
      unfold isAO at this
      unfold isSq at y
      omega
    · rw [hm]
      exact h') H vu h
  simp only [en_MO_qTest, e_MO_qTest_0, k_MO_qTest_0, rr, sh, Nat.reduceLT, Nat.reduceMul, Int.reduceToNat, Int.reduceGT, Int.reduceGE, Int.reduceNe, true_and, and_true, true_or, or_true, false_or, or_false, and_self, or_self, if_true, if_false, reduceIte, not_true_eq_false, not_false_eq_true, Int.reduceEq, Int.reduceNe, Int.reduceLT, Int.reduceLE, Int.reduceAdd, Int.reduceSub, Int.reduceMul, Int.reduceNeg, Nat.reduceAdd, Nat.reduceLeDiff, Nat.reduceEqDiff, ne_eq, List.length_cons, List.length_nil, Nat.reduceSub]
  exact t
set_option maxRecDepth 20000 in
theorem c_askM (hT : TapeR V) (hP : Ptr H) (hW : Wds H) (e72 : H 72 = V 72) (e1 : H 71 1 = tpN V) {w : Nat} (hw : wrI V (skE V 0) (-1) QW = w) (h5 : w ≤ 5) {out : QO} (hne : ∀ kk pl, out = .error (kk, pl) → kk ≠ 0)
    (hR : w ≤ 2 → RTest V (skE V (enE V (skE V 0))) (enE V (skE V 0)) 0 out ∧ ∀ a' j' cs, out = .ok (a', j', cs) → ¬ wrI V a' j' QW = 7 ∧ ¬ wrI V a' j' QW = 6)
    (hR2 : ¬ w ≤ 2 → RSum V (skE V (enE V (skE V 0))) (enE V (skE V 0)) 0 out ∧ ∀ a' j' cs, out = .ok (a', j', cs) → ¬ bz V a' = 42 ∧ ¬ bz V a' = 47 ∧ ¬ bz V a' = 43 ∧ ¬ bz V a' = 45)
    (hE : ∀ kk pl, out = .error (kk, pl) → ∀ H', Fx sQN H H' → H' 71 5 = kk → H' 71 6 = pl → H' 71 1 = 0 → R (d + 10) MO_ask (blk MO_ask 3) [va 71, vi w, vu, vu] [] H' Q)
    (hN : ∀ a2 j2 cs, out = .ok (a2, j2, cs) → ¬ bz V a2 = -1 → ∀ H', Fx sQN H H' → H' 71 5 = 1 → H' 71 6 = a2 → H' 71 1 = 0 → R (d + 10) MO_ask (blk MO_ask 3) [va 71, vi w, vu, vu] [] H' Q)
    (hK : ∀ a2 j2 cs, out = .ok (a2, j2, cs) → bz V a2 = -1 → ∀ H', Fx sQN H H' → MQs V (am0 H (tpN V)) H' a2 j2 (cs.map rco) [] 0 0 → H' 71 1 = 0 → R (d + 10) MO_ask (blk MO_ask 3) [va 71, vi w, vu, vu] [] H' Q) : CC (d + 10) MO_ask [va 71] H Q := by
  have F0 := am0_fx (H := H) (e := tpN V)
  have P0 : Ptr (am0 H (tpN V)) := ptr_fx hP F0 (by decide +kernel)
  have W0 : Wds (am0 H (tpN V)) := wds_fx hW F0 (by decide +kernel)
  have h0 := am0_m hP e72
  have x0 := am0_1 (H := H) (e := tpN V)
  -- behind the test, the sum
  have te : ∀ H', Fx sQM (am0 H (tpN V)) H' → ∀ kk pl, out = .error (kk, pl) → H' 71 5 = kk → H' 71 6 = pl → R (d + 10) MO_ask (blk MO_ask 2) [va 71, vi w, vu, vu] [] H' Q := by
    intro H' F kk pl z q5 q6
    have nb : ¬ H' 71 5 = 0 := by rw [q5]; exact hne kk pl z
    have := hE kk pl z H' (F0.tr (F.up sQM_qn)) q5 q6 ((F 71 1 rfl).trans x0)
    rw [e_MO_ask_2]
    simp only [k_MO_ask_2, rr, sh, Nat.reduceLT, Nat.reduceMul, Int.reduceToNat, Int.reduceGT, Int.reduceGE, Int.reduceNe, true_and, and_true, true_or, or_true, false_or, or_false, and_self, or_self, if_true, if_false, reduceIte, not_true_eq_false, not_false_eq_true, Int.reduceEq, Int.reduceNe, Int.reduceLT, Int.reduceLE, Int.reduceAdd, Int.reduceSub, Int.reduceMul, Int.reduceNeg, Nat.reduceAdd, Nat.reduceLeDiff, Nat.reduceEqDiff, ne_eq, List.length_cons, List.length_nil, Nat.reduceSub, nb]
    exact this
  have tk : ∀ a2 j2 cs, out = .ok (a2, j2, cs) → ∀ H', MQs V (am0 H (tpN V)) H' a2 j2 (cs.map rco) [] 0 0 → R (d + 10) MO_ask (blk MO_ask 2) [va 71, vi w, vu, vu] [] H' Q := by
    intro a2 j2 cs z H' h'
    have k5 := h'.k5
    have hm := h'.mv
    have k5' := hm.1.k5
    have b2 : hs H' 71 2 a2 71 2 = a2 := hs_same
    have G := F0.tr (hm.1.fx.up sQM_qn)
    have x1 : hs H' 71 2 a2 71 1 = 0 := (hm.1.fx 71 1 rfl).trans x0
    rw [e_MO_ask_2]
    by_cases c : bz V a2 = -1
    · have := hK _ _ _ z c _ G hm.1 x1
      simp only [k_MO_ask_2, rr, sh, Nat.reduceLT, Nat.reduceMul, Int.reduceToNat, Int.reduceGT, Int.reduceGE, Int.reduceNe, true_and, and_true, true_or, or_true, false_or, or_false, and_self, or_self, if_true, if_false, reduceIte, not_true_eq_false, not_false_eq_true, Int.reduceEq, Int.reduceNe, Int.reduceLT, Int.reduceLE, Int.reduceAdd, Int.reduceSub, Int.reduceMul, Int.reduceNeg, Nat.reduceAdd, Nat.reduceLeDiff, Nat.reduceEqDiff, ne_eq, List.length_cons, List.length_nil, Nat.reduceSub, k5, h'.look hT, c]
      exact this
    · have := hN _ _ _ z c _ ((G.hs (c := 71) (j := 5) rfl).hs (c := 71) (j := 6) rfl) ((hs2 (by decide)).trans hs_same) hs_same ((hs2 (by decide)).trans ((hs2 (by decide)).trans x1))
      simp only [k_MO_ask_2, rr, sh, Nat.reduceLT, Nat.reduceMul, Int.reduceToNat, Int.reduceGT, Int.reduceGE, Int.reduceNe, true_and, and_true, true_or, or_true, false_or, or_false, and_self, or_self, if_true, if_false, reduceIte, not_true_eq_false, not_false_eq_true, Int.reduceEq, Int.reduceNe, Int.reduceLT, Int.reduceLE, Int.reduceAdd, Int.reduceSub, Int.reduceMul, Int.reduceNeg, Nat.reduceAdd, Nat.reduceLeDiff, Nat.reduceEqDiff, ne_eq, List.length_cons, List.length_nil, Nat.reduceSub, k5, h'.look hT, c, b2, q_failM k5']
      exact this
  simp only [en_MO_ask, e_MO_ask_0, k_MO_ask_0, rr, sh, Nat.reduceLT, Nat.reduceMul, Int.reduceToNat, Int.reduceGT, Int.reduceGE, Int.reduceNe, true_and, and_true, true_or, or_true, false_or, or_false, and_self, or_self, if_true, if_false, reduceIte, not_true_eq_false, not_false_eq_true, Int.reduceEq, Int.reduceNe, Int.reduceLT, Int.reduceLE, Int.reduceAdd, Int.reduceSub, Int.reduceMul, Int.reduceNeg, Nat.reduceAdd, Nat.reduceLeDiff, Nat.reduceEqDiff, ne_eq, List.length_cons, List.length_nil, Nat.reduceSub, hs_app, false_and, and_false, e1]
  rw [show hs (hs (hs (hs (hs (hs (hs (hs (hs (hs H 71 3 (tpN V)) 71 1 0) 71 2 0) 71 4 (-1)) 71 5 0) 71 6 (-1)) 71 88 0) 71 90 0) 71 91 0) 71 92 0 = am0 H (tpN V) from rfl]
  refine c_qKind (d := d + 5) hT P0 W0 h0 hw h5 (fun H' h' => ?_)
  have k5 := h'.k5
  by_cases c3 : w ≤ 2
  · have c4 : ¬ (3 : Int) ≤ (w : Int) := by omega
    obtain ⟨hR, hop⟩ := hR c3
    simp only [rr, sh, Nat.reduceLT, Nat.reduceMul, Int.reduceToNat, Int.reduceGT, Int.reduceGE, Int.reduceNe, true_and, and_true, true_or, or_true, false_or, or_false, and_self, or_self, if_true, if_false, reduceIte, not_true_eq_false, not_false_eq_true, Int.reduceEq, Int.reduceNe, Int.reduceLT, Int.reduceLE, Int.reduceAdd, Int.reduceSub, Int.reduceMul, Int.reduceNeg, Nat.reduceAdd, Nat.reduceLeDiff, Nat.reduceEqDiff, ne_eq, List.length_cons, List.length_nil, Nat.reduceSub, k5, c4]
    refine c_qTest hT P0 W0 hR hop h' (fun kk pl z H2 F q5 q6 => ?_) (fun a2 j2 cs z H2 h2 => ?_)
    · exact te H2 F kk pl z q5 q6
    · exact tk a2 j2 cs z H2 h2
  · have c4 : (3 : Int) ≤ (w : Int) := by omega
    obtain ⟨hR, hop⟩ := hR2 c3
    simp only [rr, sh, Nat.reduceLT, Nat.reduceMul, Int.reduceToNat, Int.reduceGT, Int.reduceGE, Int.reduceNe, true_and, and_true, true_or, or_true, false_or, or_false, and_self, or_self, if_true, if_false, reduceIte, not_true_eq_false, not_false_eq_true, Int.reduceEq, Int.reduceNe, Int.reduceLT, Int.reduceLE, Int.reduceAdd, Int.reduceSub, Int.reduceMul, Int.reduceNeg, Nat.reduceAdd, Nat.reduceLeDiff, Nat.reduceEqDiff, ne_eq, List.length_cons, List.length_nil, Nat.reduceSub, k5, c4]
    rw [e_MO_ask_1]
    simp only [k_MO_ask_1, rr, sh, Nat.reduceLT, Nat.reduceMul, Int.reduceToNat, Int.reduceGT, Int.reduceGE, Int.reduceNe, true_and, and_true, true_or, or_true, false_or, or_false, and_self, or_self, if_true, if_false, reduceIte, not_true_eq_false, not_false_eq_true, Int.reduceEq, Int.reduceNe, Int.reduceLT, Int.reduceLE, Int.reduceAdd, Int.reduceSub, Int.reduceMul, Int.reduceNeg, Nat.reduceAdd, Nat.reduceLeDiff, Nat.reduceEqDiff, ne_eq, List.length_cons, List.length_nil, Nat.reduceSub, k5]
    refine c_qSums (d := d + 2) hT P0 W0 hR hne hop h' (Or.inl rfl) (fun kk pl z H2 F q5 q6 _ => ?_) (fun a2 j2 cs z H2 h2 => ?_)
    · exact te H2 F kk pl z q5 q6
    · exact tk a2 j2 cs z H2 h2
end QR3
