/-! QUESTIONS: the reference's parts: swing, force with no room -/
section QZ9
variable {d : Nat} {V B : Hp} {K : Hp → Prop} {L : AV → Hp → Prop} {E : Hp → Prop} {a : Nat} {j : Int} {C W : List Int} {o b : Nat}
set_option maxRecDepth 20000 in
theorem k_ofN (hT : TapeR V) (hPB : Ptr B) (hWB : Wds B) (hc : KCtx (d + 6) K L E) {w : Nat} (hw : wrI V a j QW = w) (h3 : w = 13 ∨ w = 14) (ho : o = 6) (hE : ErQ B E 4 a) : PKq V B (d + 6) K a j C W o b := by
  intro H y2 y3 y4 y5 h
  have hm := h.mv
  have k5 := h.k5
  have k5' := hm.1.k5
  have b2 : hs H 71 2 a 71 2 = a := hs_same
  have o6 : hs H 71 2 a 71 91 = 6 := by rw [hm.1.2.2.2.1, ho]; rfl
  obtain ⟨lt, n40, -⟩ := wr_ltM hT h hw (by omega)
  have f := mq_f (hm.1.ptr hPB)
  obtain ⟨m15, m16⟩ := mm_no (d := d + 4) hT hWB hm (by rw [hw]; omega) (by rw [hw]; omega)
  have qo := fun {w : Int} {Q} => c_qOpensN (d := d + 4) (Q := Q) k5' o6 (w := w) (p := a)
  have qw := fun {Q} => q_qWordOf (d := d + 2) (Q := Q) hT hPB hWB hm (l := 3) (u := 5)
  have F2 : Fx sQM B (hs (hs (hs H 71 2 a) 71 5 4) 71 6 a) := (hm.1.fx.hs (c := 71) (j := 5) rfl).hs (c := 71) (j := 6) rfl
  have f2 := mq_f (ptr_fx hPB F2 (by decide +kernel) : Ptr (hs (hs (hs H 71 2 a) 71 5 4) 71 6 a))
  have bc2 : BdC (hs (hs (hs H 71 2 a) 71 5 4) 71 6 a) := h.bcf hT
  have e5 : hs (hs (hs H 71 2 a) 71 5 4) 71 6 a 71 5 = 4 := by simp only [hs_app, Int.reduceEq, Int.reduceAdd, and_false, false_and, and_true, true_and, if_false, if_true, reduceIte, eq_self, and_self]
  have e6 : hs (hs (hs H 71 2 a) 71 5 4) 71 6 a 71 6 = a := by simp only [hs_app, Int.reduceEq, Int.reduceAdd, and_false, false_and, and_true, true_and, if_false, if_true, reduceIte, eq_self, and_self]
  have nb : hs (hs (hs H 71 2 a) 71 5 4) 71 6 a 71 5 ≠ 0 := by rw [e5]; decide
  have qa : ∀ {c : Int} {Q : AV → Hp → Prop}, CC (d + 4) MO_asks [va 71, va c] (hs (hs (hs H 71 2 a) 71 5 4) 71 6 a) Q = Q vu (hs (hs (hs H 71 2 a) 71 5 4) 71 6 a) := fun {c Q} => q_asks' nb
  have fin : ∀ {x : Int} {y2 y3 y4 y5 : AV}, R (d + 6) MO_qPartTold (blk MO_qPartTold 1) [va 71, vi x, y2, y3, y4, y5] [] (hs (hs (hs H 71 2 a) 71 5 4) 71 6 a) (fun _ => K) := fun {x y2 y3 y4 y5} => k_bad nb (hc.2.1 _ nb (hE _ F2 e5 e6 bc2))
  rw [hw] at qw
  rw [e_MO_qPartTold_1]
  rcases h3 with rfl | rfl
  · simp only [show (if (3 : Int) ≤ qWh ((13 : Nat) : Int) ∧ qWh ((13 : Nat) : Int) < 5 then qWh ((13 : Nat) : Int) else -1) = 3 from rfl] at qw
    simp only [k_MO_qPartTold_1, e_MO_qPartTold_2, k_MO_qPartTold_2, e_MO_qPartTold_10, k_MO_qPartTold_10, e_MO_qPartTold_12, k_MO_qPartTold_12, en_MO_qAsksWord, e_MO_qAsksWord_0, k_MO_qAsksWord_0, e_MO_qAsksWord_1, k_MO_qAsksWord_1, e_MO_qAsksWord_2, k_MO_qAsksWord_2, e_MO_qAsksWord_3, k_MO_qAsksWord_3, e_MO_qAsksWord_4, k_MO_qAsksWord_4, e_MO_qAsksWord_5, k_MO_qAsksWord_5, e_MO_qAsksWord_6, k_MO_qAsksWord_6, rr, sh, Nat.reduceLT, Nat.reduceMul, Int.reduceToNat, Int.reduceGT, Int.reduceGE, Int.reduceNe, true_and, and_true, true_or, or_true, false_or, or_false, and_self, or_self, if_true, if_false, reduceIte, not_true_eq_false, not_false_eq_true, Int.reduceEq, Int.reduceNe, Int.reduceLT, Int.reduceLE, Int.reduceAdd, Int.reduceSub, Int.reduceMul, Int.reduceNeg, Nat.reduceAdd, Nat.reduceLeDiff, Nat.reduceEqDiff, ne_eq, List.length_cons, List.length_nil, Nat.reduceSub, f, f2, k5, h.look hT, qw, n40, m15, m16, b2, show w32 63 = 63 from rfl, show w32 60 = 60 from rfl, qo, qa]
    exact fin
  · simp only [show (if (3 : Int) ≤ qWh ((14 : Nat) : Int) ∧ qWh ((14 : Nat) : Int) < 5 then qWh ((14 : Nat) : Int) else -1) = 4 from rfl] at qw
    simp only [k_MO_qPartTold_1, e_MO_qPartTold_2, k_MO_qPartTold_2, e_MO_qPartTold_10, k_MO_qPartTold_10, e_MO_qPartTold_12, k_MO_qPartTold_12, en_MO_qAsksWord, e_MO_qAsksWord_0, k_MO_qAsksWord_0, e_MO_qAsksWord_1, k_MO_qAsksWord_1, e_MO_qAsksWord_2, k_MO_qAsksWord_2, e_MO_qAsksWord_3, k_MO_qAsksWord_3, e_MO_qAsksWord_4, k_MO_qAsksWord_4, e_MO_qAsksWord_5, k_MO_qAsksWord_5, e_MO_qAsksWord_6, k_MO_qAsksWord_6, rr, sh, Nat.reduceLT, Nat.reduceMul, Int.reduceToNat, Int.reduceGT, Int.reduceGE, Int.reduceNe, true_and, and_true, true_or, or_true, false_or, or_false, and_self, or_self, if_true, if_false, reduceIte, not_true_eq_false, not_false_eq_true, Int.reduceEq, Int.reduceNe, Int.reduceLT, Int.reduceLE, Int.reduceAdd, Int.reduceSub, Int.reduceMul, Int.reduceNeg, Nat.reduceAdd, Nat.reduceLeDiff, Nat.reduceEqDiff, ne_eq, List.length_cons, List.length_nil, Nat.reduceSub, f, f2, k5, h.look hT, qw, n40, m15, m16, b2, show w32 64 = 64 from rfl, show w32 61 = 61 from rfl, qo, qa]
    exact fin
theorem p_ofN' {V : Hp} {a o : Nat} {j : Int} (hT : TapeR V) (hk : skE V a = a) (ho6 : o ≤ 6) (ho : ¬ o < 6) {w : Nat} (hw : wrI V a j QW = w) (h3 : w = 13 ∨ w = 14) : PartOK V a j o :=
  p_ofN hT hk ho6 ho hw h3 (fun _ _ _ _ _ _ _ _ hPB hWB hc hE => k_ofN hT hPB hWB hc hw h3 (by omega) hE)
end QZ9
