/-! QUESTIONS: the reference's parts: swing, force; what stands alone -/
section QZ1
variable {d : Nat} {V B : Hp} {K : Hp → Prop} {L : AV → Hp → Prop} {E : Hp → Prop} {a : Nat} {j : Int} {C W : List Int} {o b : Nat}
/-- what opens, at the reader's later place -/
theorem MQs.opn {H : Hp} (h : MQs V B H a j C W o b) {w : Int} {H' : Hp} {p a' : Nat} {i : Int} (hF : Fx sLM (hs (hs (hs H 71 91 ((o + 1 : Nat) : Int)) 137 (W.length : Nat) w) 71 90 ((W.length + 1 : Nat) : Int)) H') (hM : MRd V H' p i) (hp : skE V p = a') (ha : a < a') : MQs V B H' a' i C (W ++ [w]) (o + 1) b := by
  obtain ⟨-, ⟨c1, c2⟩, ⟨w1, w2⟩, ho, hb, hle, hF0⟩ := h
  refine ⟨⟨p, hM, hp⟩, ⟨?_, fun k hk => ?_⟩, ⟨?_, fun k hk => ?_⟩, ?_, ?_, by rw [len_s]; omega, (((hF0.hs (c := 71) (j := 91) rfl).hs (c := 137) rfl).hs (c := 71) (j := 90) rfl).tr (hF.up sLM_qm)⟩
  · rw [hF 71 88 rfl, hs2 (by decide), hs_ne' (by decide), hs2 (by decide)]; exact c1
  · rw [hF 136 k rfl, hs_ne' (by decide), hs_ne' (by decide), hs_ne' (by decide)]; exact c2 k hk
  · rw [hF 71 90 rfl, hs_same, len_s]
  · rw [hF 137 k rfl, hs_ne' (by decide), hs_at, at_z, hs_ne' (by decide), getD_app hk]
    by_cases c : k = W.length
    · rw [if_pos c, if_pos c]
    · rw [if_neg c, if_neg c]
      rw [len_s] at hk
      exact w2 k (lt_sN hk c)
  · rw [hF 71 91 rfl, hs2 (by decide), hs_ne' (by decide)]; exact hs_same
  · rw [hF 71 92 rfl, hs2 (by decide), hs_ne' (by decide), hs2 (by decide)]; exact hb
theorem wr_ltM (hT : TapeR V) {H : Hp} (h : MQs V B H a j C W o b) {w : Int} (hw : wrI V a j QW = w) (h0 : 0 ≤ w) : a < enE V a ∧ ¬ bz V a = 40 ∧ dgB (bz V a) = false := by
  have lt := wr_gt hT h.sk.2 h.sk.1 hw h0
  have := lt_nd (wr_dg hT h.sk.1 hw h0)
  exact ⟨lt, this.2.1, this.1⟩
theorem mm_no (hT : TapeR V) (hWB : Wds B) {H : Hp} (h : MQa V B H a j C W o b) (h15 : ¬ wrI V a j QW = 15) (h16 : ¬ wrI V a j QW = 16) : (∀ {Q : AV → Hp → Prop}, CC (d + 1) MO_isHere [va 71, va 129] H Q = Q (vi 0) H) ∧ ∀ {Q : AV → Hp → Prop}, CC (d + 1) MO_isHere [va 71, va 130] H Q = Q (vi 0) H := by
  refine ⟨fun {Q} => ?_, fun {Q} => ?_⟩
  · have := h.here (d := d) (Q := Q) hT hWB (i := 15) (c := 129) (by decide) rfl
    rw [this, decide_eq_false (show ¬ wrI V a j QW = ((15 : Nat) : Int) from h15)]; rfl
  · have := h.here (d := d) (Q := Q) hT hWB (i := 16) (c := 130) (by decide) rfl
    rw [this, decide_eq_false (show ¬ wrI V a j QW = ((16 : Nat) : Int) from h16)]; rfl
set_option maxRecDepth 20000 in
/-- swing, force -/
theorem k_of (hT : TapeR V) (hPB : Ptr B) (hWB : Wds B) {w : Nat} (hw : wrI V a j QW = w) (h3 : w = 13 ∨ w = 14) (ho : o < 6) (hn : PKq V B (d + 6) K (skE V (enE V a)) (enE V a) C (W ++ [((w + 47 : Nat) : Int)]) (o + 1) b) : PKq V B (d + 6) K a j C W o b := by
  intro H y2 y3 y4 y5 h
  have hm := h.mv
  have k5 := h.k5
  have b2 : hs H 71 2 a 71 2 = a := hs_same
  obtain ⟨lt, n40, -⟩ := wr_ltM hT h hw (by omega)
  have r := enE_rng h.sk.2
  have f := mq_f (hm.1.ptr hPB)
  obtain ⟨m15, m16⟩ := mm_no (d := d + 4) hT hWB hm (by rw [hw]; omega) (by rw [hw]; omega)
  have qo := fun {Q} => c_qOpens (d := d + 4) (Q := Q) hT hPB hm.1 ho (w := ((w + 47 : Nat) : Int)) (p := a)
  have qw := fun {Q} => q_qWordOf (d := d + 2) (Q := Q) hT hPB hWB hm (l := 3) (u := 5)
  have M2 : MRd V (hs (hs (hs (hs H 71 2 a) 71 91 ((o + 1 : Nat) : Int)) 137 (W.length : Nat) ((w + 47 : Nat) : Int)) 71 90 ((W.length + 1 : Nat) : Int)) a j := hm.2.1.c (fun b hb => by rw [hs2 (by omega), hs_ne' (by decide), hs2 (by omega)]) (by rw [hs_ne (by decide), hs_ne (by decide), hs_ne (by decide)])
  have hW2 : Wds (hs (hs (hs (hs H 71 2 a) 71 91 ((o + 1 : Nat) : Int)) 137 (W.length : Nat) ((w + 47 : Nat) : Int)) 71 90 ((W.length + 1 : Nat) : Int)) := wds_fx hWB (((hm.1.fx.hs (c := 71) (j := 91) rfl).hs (c := 137) rfl).hs (c := 71) (j := 90) rfl) (by decide +kernel)
  have wi : w < 17 := by omega
  have hq := chQ hW2 wi
  have eh : hereB V a j (QW.getD w []) = true := by rw [here_q wi, decide_eq_true hw]
  have qa : ∀ {Q : AV → Hp → Prop}, CC (d + 4) MO_asks [va 71, va (qcell w)] (hs (hs (hs (hs H 71 2 a) 71 91 ((o + 1 : Nat) : Int)) 137 (W.length : Nat) ((w + 47 : Nat) : Int)) 71 90 ((W.length + 1 : Nat) : Int)) Q = Q vu _ := fun {Q} => by
    rw [q_asks (d := d + 1) hT M2.1 M2.2.1 M2.2.2.2.2.2 M2.2.2.1 M2.2.2.2.1 hq.2.2 hq.1 hq.2.1, eh, if_pos rfl, hm.2.2]
  have f2 := mq_f (ptr_fx hPB (((hm.1.fx.hs (c := 71) (j := 91) rfl).hs (c := 137) (j := (W.length : Nat)) (v := ((w + 47 : Nat) : Int)) rfl).hs (c := 71) (j := 90) (v := ((W.length + 1 : Nat) : Int)) rfl) (by decide +kernel) : Ptr (hs (hs (hs (hs H 71 2 a) 71 91 ((o + 1 : Nat) : Int)) 137 (W.length : Nat) ((w + 47 : Nat) : Int)) 71 90 ((W.length + 1 : Nat) : Int)))
  have FL : Fx sLM (hs (hs (hs (hs H 71 2 a) 71 91 ((o + 1 : Nat) : Int)) 137 (W.length : Nat) ((w + 47 : Nat) : Int)) 71 90 ((W.length + 1 : Nat) : Int)) (hs (hs (hs (hs (hs (hs (hs H 71 2 a) 71 91 ((o + 1 : Nat) : Int)) 137 (W.length : Nat) ((w + 47 : Nat) : Int)) 71 90 ((W.length + 1 : Nat) : Int)) 71 2 a) 71 2 (enE V a)) 71 4 (enE V a)) := ((Fx.rf.hs (c := 71) (j := 2) rfl).hs (c := 71) (j := 2) rfl).hs (c := 71) (j := 4) rfl
  have hp := hm.1.opn FL (p := enE V a) (sLM_ms M2 FL ((hs2 (by decide)).trans hs_same) hs_same ((hs2 (by decide)).trans ((hs2 (by decide)).trans ((hs2 (by decide)).trans M2.2.2.2.1))) ((hs2 (by decide)).trans ((hs2 (by decide)).trans ((hs2 (by decide)).trans M2.2.2.2.2.1))) r.2.1) rfl (Nat.lt_of_lt_of_le lt (skE_rng r.2.1).1)
  rw [hw] at qw
  rw [e_MO_qPartTold_1]
  rcases h3 with rfl | rfl
  · have := hn _ (vi (bz V a)) (vi 3) y4 y5 hp
    simp only [show (if (3 : Int) ≤ qWh ((13 : Nat) : Int) ∧ qWh ((13 : Nat) : Int) < 5 then qWh ((13 : Nat) : Int) else -1) = 3 from rfl] at qw
    simp only [show ((13 + 47 : Nat) : Int) = 60 from rfl] at *
    simp only [show qcell 13 = 134 from rfl] at qa
    simp only [k_MO_qPartTold_1, e_MO_qPartTold_2, k_MO_qPartTold_2, e_MO_qPartTold_10, k_MO_qPartTold_10, e_MO_qPartTold_12, k_MO_qPartTold_12, en_MO_qAsksWord, e_MO_qAsksWord_0, k_MO_qAsksWord_0, e_MO_qAsksWord_1, k_MO_qAsksWord_1, e_MO_qAsksWord_2, k_MO_qAsksWord_2, e_MO_qAsksWord_3, k_MO_qAsksWord_3, e_MO_qAsksWord_4, k_MO_qAsksWord_4, e_MO_qAsksWord_5, k_MO_qAsksWord_5, e_MO_qAsksWord_6, k_MO_qAsksWord_6, rr, sh, Nat.reduceLT, Nat.reduceMul, Int.reduceToNat, Int.reduceGT, Int.reduceGE, Int.reduceNe, true_and, and_true, true_or, or_true, false_or, or_false, and_self, or_self, if_true, if_false, reduceIte, not_true_eq_false, not_false_eq_true, Int.reduceEq, Int.reduceNe, Int.reduceLT, Int.reduceLE, Int.reduceAdd, Int.reduceSub, Int.reduceMul, Int.reduceNeg, Nat.reduceAdd, Nat.reduceLeDiff, Nat.reduceEqDiff, ne_eq, List.length_cons, List.length_nil, Nat.reduceSub, f, f2, k5, h.look hT, qw, n40, m15, m16, b2, show w32 63 = 63 from rfl, show w32 60 = 60 from rfl, qo, qa]
    exact this
  · have := hn _ (vi (bz V a)) (vi 4) y4 y5 hp
    simp only [show (if (3 : Int) ≤ qWh ((14 : Nat) : Int) ∧ qWh ((14 : Nat) : Int) < 5 then qWh ((14 : Nat) : Int) else -1) = 4 from rfl] at qw
    simp only [show ((14 + 47 : Nat) : Int) = 61 from rfl] at *
    simp only [show qcell 14 = 135 from rfl] at qa
    simp only [k_MO_qPartTold_1, e_MO_qPartTold_2, k_MO_qPartTold_2, e_MO_qPartTold_10, k_MO_qPartTold_10, e_MO_qPartTold_12, k_MO_qPartTold_12, en_MO_qAsksWord, e_MO_qAsksWord_0, k_MO_qAsksWord_0, e_MO_qAsksWord_1, k_MO_qAsksWord_1, e_MO_qAsksWord_2, k_MO_qAsksWord_2, e_MO_qAsksWord_3, k_MO_qAsksWord_3, e_MO_qAsksWord_4, k_MO_qAsksWord_4, e_MO_qAsksWord_5, k_MO_qAsksWord_5, e_MO_qAsksWord_6, k_MO_qAsksWord_6, rr, sh, Nat.reduceLT, Nat.reduceMul, Int.reduceToNat, Int.reduceGT, Int.reduceGE, Int.reduceNe, true_and, and_true, true_or, or_true, false_or, or_false, and_self, or_self, if_true, if_false, reduceIte, not_true_eq_false, not_false_eq_true, Int.reduceEq, Int.reduceNe, Int.reduceLT, Int.reduceLE, Int.reduceAdd, Int.reduceSub, Int.reduceMul, Int.reduceNeg, Nat.reduceAdd, Nat.reduceLeDiff, Nat.reduceEqDiff, ne_eq, List.length_cons, List.length_nil, Nat.reduceSub, f, f2, k5, h.look hT, qw, n40, m15, m16, b2, show w32 64 = 64 from rfl, show w32 61 = 61 from rfl, qo, qa]
    exact this
end QZ1
