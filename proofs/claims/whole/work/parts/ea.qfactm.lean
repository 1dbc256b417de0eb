/-! QUESTIONS: the reference's facts -/
section QT3
variable {d : Nat} {V B H : Hp} {Q : AV → Hp → Prop} {a : Nat} {j : Int} {C W : List Int} {o b : Nat}
/-- a fact with no not, no square bracket ahead -/
def RFq (V : Hp) (a : Nat) (j : Int) (o : Nat) (out : QO) : Prop := ∀ (B : Hp) (d : Nat) (Q : AV → Hp → Prop) (C W : List Int) (b : Nat) (H : Hp), Ptr B → Wds B → okW W → MQs V B H a j C W o b →
  (∀ kk pl, out = .error (kk, pl) → ∀ H', Fx sQM B H' → H' 71 5 = kk → H' 71 6 = pl → Q vu H') → (∀ a' j' cs, out = .ok (a', j', cs) → ∀ H', MQs V B H' a' j' (C ++ cs.map rco) W o b → Q vu H') → CC (d + 8) MO_qFact [va 71] H Q
theorem f_all (hT : TapeR V) (hw : wrI V a j QW = 9) : RFq V a j o (.ok (skE V (enE V a), (enE V a : Int), [-10])) := by
  intro B d Q C W b H hPB hWB ho h he hk
  have f := mq_f (h.ptr hPB)
  have ts := fun {Q} => MQs.takesY (d := d + 5) (Q := Q) hT hWB h (i := 9) (c := 128) (by decide) rfl hw
  have hp := h.pass
  have lt := wr_gt hT h.sk.2 h.sk.1 hw (by decide)
  have sk := skE_rng (enE_rng h.sk.2).2.1
  have qc := fun {Q} => q_qCode (d := d + 7) (Q := Q) hT hPB hp (v := 13)
  have := hk _ _ _ rfl _ (hp.code (by have := h.2.2.2.2.2.1; omega) (v := 13))
  simp only [en_MO_qFact, e_MO_qFact_0, k_MO_qFact_0, rr, sh, Nat.reduceLT, Nat.reduceMul, Int.reduceToNat, Int.reduceGT, Int.reduceGE, Int.reduceNe, true_and, and_true, true_or, or_true, false_or, or_false, and_self, or_self, if_true, if_false, reduceIte, not_true_eq_false, not_false_eq_true, Int.reduceEq, Int.reduceNe, Int.reduceLT, Int.reduceLE, Int.reduceAdd, Int.reduceSub, Int.reduceMul, Int.reduceNeg, Nat.reduceAdd, Nat.reduceLeDiff, Nat.reduceEqDiff, ne_eq, List.length_cons, List.length_nil, Nat.reduceSub, f, ts, qc]
  exact this
theorem c_qCodeE (h : BdC H) (hP : Ptr H) {v : Int} : CC d MO_qCode [va 71, vi v] H Q = Q vu (hs (hs H 136 (H 71 88) v) 71 88 (H 71 88 + 1)) := by
  refine CC_dt fun Q hQ => ?_
  have p87 : H 71 87 = 136 := hP (71, 87, 136) (by decide +kernel)
  unfold BdC at h
  obtain ⟨h1, h2⟩ := h
  have kw : w32 (H 71 88 + 1) = H 71 88 + 1 := w32_id (by omega) (by omega)
  simp only [en_MO_qCode, e_MO_qCode_0, k_MO_qCode_0, rr, sh, Nat.reduceLT, Nat.reduceMul, Int.reduceToNat, Int.reduceGT, Int.reduceGE, Int.reduceNe, true_and, and_true, true_or, or_true, false_or, or_false, and_self, or_self, if_true, if_false, reduceIte, not_true_eq_false, not_false_eq_true, Int.reduceEq, Int.reduceNe, Int.reduceLT, Int.reduceLE, Int.reduceAdd, Int.reduceSub, Int.reduceMul, Int.reduceNeg, Nat.reduceAdd, Nat.reduceLeDiff, Nat.reduceEqDiff, ne_eq, List.length_cons, List.length_nil, Nat.reduceSub, hs_app, false_and, and_false, p87, h1, h2, kw]
  exact hQ
set_option maxRecDepth 20000 in
theorem f_comp (hT : TapeR V) {outA out : QO} (h9 : ¬ wrI V a j QW = 9) (hRA : RSum V a j o outA) (hQA : QF V a (3 + 3 * (6 - o)) false outA) (hopA : ∀ a' j' cs, outA = .ok (a', j', cs) → ¬ bz V a' = 42 ∧ ¬ bz V a' = 47 ∧ ¬ bz V a' = 43 ∧ ¬ bz V a' = 45)
    (hE : ∀ x, outA = .error x → out = .error x) (hC : ∀ a2 j2 cs1, outA = .ok (a2, j2, cs1) → ¬ (bz V a2 = 60 ∨ bz V a2 = 62 ∨ bz V a2 = 61) → out = .error (1, (a2 : Int)))
    (hB : ∀ a2 j2 cs1, outA = .ok (a2, j2, cs1) → ∀ e : Int, (bz V a2 = 60 ∧ e = -22) ∨ (bz V a2 = 62 ∧ e = -23) ∨ (bz V a2 = 61 ∧ e = -24) → ∃ outB, RSum V (skE V (a2 + 1)) j2 o outB ∧ QF V (skE V (a2 + 1)) (3 + 3 * (6 - o)) false outB ∧ (∀ a' j' cs, outB = .ok (a', j', cs) → ¬ bz V a' = 42 ∧ ¬ bz V a' = 47 ∧ ¬ bz V a' = 43 ∧ ¬ bz V a' = 45) ∧ out = quF (fun c => cs1 ++ (c ++ [e])) outB) : RFq V a j o out := by
  intro B d Q C W b H hPB hWB hoW h he hk
  have f := mq_f (h.ptr hPB)
  have ts := fun {Q} => MQs.takesN (d := d + 5) (Q := Q) hT hWB h (i := 9) (c := 128) (by decide) rfl h9
  have hm := h.mv
  simp only [en_MO_qFact, e_MO_qFact_0, k_MO_qFact_0, e_MO_qFact_1, k_MO_qFact_1, rr, sh, Nat.reduceLT, Nat.reduceMul, Int.reduceToNat, Int.reduceGT, Int.reduceGE, Int.reduceNe, true_and, and_true, true_or, or_true, false_or, or_false, and_self, or_self, if_true, if_false, reduceIte, not_true_eq_false, not_false_eq_true, Int.reduceEq, Int.reduceNe, Int.reduceLT, Int.reduceLE, Int.reduceAdd, Int.reduceSub, Int.reduceMul, Int.reduceNeg, Nat.reduceAdd, Nat.reduceLeDiff, Nat.reduceEqDiff, ne_eq, List.length_cons, List.length_nil, Nat.reduceSub, f, ts]
  refine c_qSums hT hPB hWB hRA hQA.1 hopA hm.1 (okW_op hoW) (fun kk pl z H' hF h5 h6 hb => ?_) (fun a2 j2 cs1 z H' h' => ?_)
  · have nb : ¬ H' 71 5 = 0 := by rw [h5]; exact hQA.1 kk pl z
    have := he kk pl (hE _ z) H' hF h5 h6
    simp only [rr, sh, Nat.reduceLT, Nat.reduceMul, Int.reduceToNat, Int.reduceGT, Int.reduceGE, Int.reduceNe, true_and, and_true, true_or, or_true, false_or, or_false, and_self, or_self, if_true, if_false, reduceIte, not_true_eq_false, not_false_eq_true, Int.reduceEq, Int.reduceNe, Int.reduceLT, Int.reduceLE, Int.reduceAdd, Int.reduceSub, Int.reduceMul, Int.reduceNeg, Nat.reduceAdd, Nat.reduceLeDiff, Nat.reduceEqDiff, ne_eq, List.length_cons, List.length_nil, Nat.reduceSub, nb]
    exact this
  · obtain ⟨l1, l2, l3, l4, l5⟩ := hQA.2 _ _ _ z
    have k5 := h'.k5
    have hm2 := h'.mv
    have k5' := hm2.1.k5
    have b2 : hs H' 71 2 a2 71 2 = a2 := hs_same
    have n16 := tpN_le hT
    have aw := w32_s (n := a2) (Nat.lt_of_le_of_lt (Nat.le_trans h'.sk.2 n16) (by decide))
    by_cases c : bz V a2 = 60 ∨ bz V a2 = 62 ∨ bz V a2 = 61
    · have lt := bz_in' (V := V) (k := a2) rfl (by omega)
      have sk := skE_rng (V := V) (a := a2 + 1) lt
      have hsg := hm2.sign (by omega)
      have goE : ∀ (e x : Int) (outB : QO), QF V (skE V (a2 + 1)) (3 + 3 * (6 - o)) false outB → out = quF (fun c => cs1 ++ (c ++ [e])) outB → ∀ kk pl, outB = .error (kk, pl) → ∀ H3, Fx sQM B H3 → H3 71 5 = kk → H3 71 6 = pl → BdC H3 → CC (d + 7) MO_qCode [va 71, vi x] H3 (fun _ H1 => Q vu H1) := by
        intro e x outB hQB eO kk pl zB H3 hF h5 h6 hb
        rw [c_qCodeE hb (ptr_fx hPB hF (by decide +kernel))]
        exact he kk pl (by rw [eO, zB]; try rfl) _ ((hF.hs (c := 136) rfl).hs (c := 71) (j := 88) rfl) ((hs2 (by decide)).trans ((hs_ne' (by decide)).trans h5)) ((hs2 (by decide)).trans ((hs_ne' (by decide)).trans h6))
      have goK : ∀ (e x : Int) (outB : QO), x = rco e → QF V (skE V (a2 + 1)) (3 + 3 * (6 - o)) false outB → out = quF (fun c => cs1 ++ (c ++ [e])) outB → ∀ a3 j3 cs2, outB = .ok (a3, j3, cs2) → ∀ H3, MQs V B H3 a3 j3 (C ++ cs1.map rco ++ cs2.map rco) W o b → CC (d + 7) MO_qCode [va 71, vi x] H3 (fun _ H1 => Q vu H1) := by
        intro e x outB ex hQB eO a3 j3 cs2 zB H3 h3
        subst ex
        obtain ⟨m1, m2, m3, m4, m5⟩ := hQB.2 _ _ _ zB
        rw [q_qCode hT hPB h3]
        have l0 := h.2.2.2.2.2.1
        have hl : (C ++ cs1.map rco ++ cs2.map rco).length + W.length + 1 ≤ a3 := by
          rw [List.length_append, List.length_append, List.length_map, List.length_map]
          clear aw
          omega
        refine hk _ _ _ (by rw [eO, zB]; try rfl) _ ?_
        have := h3.code hl (v := rco e)
        have e1 : C ++ (cs1 ++ (cs2 ++ [e])).map rco = C ++ cs1.map rco ++ cs2.map rco ++ [rco e] := by
          rw [List.map_append, List.map_append]
          simp only [List.append_assoc]
          rfl
        rw [e1]
        exact this
      rcases c with c | c | c
      · obtain ⟨outB, hRB, hQB, hopB, eO⟩ := hB _ _ _ z (-22) (Or.inl ⟨c, rfl⟩)
        simp only [e_MO_qFact_2, k_MO_qFact_2, e_MO_qFact_3, k_MO_qFact_3, rr, sh, Nat.reduceLT, Nat.reduceMul, Int.reduceToNat, Int.reduceGT, Int.reduceGE, Int.reduceNe, true_and, and_true, true_or, or_true, false_or, or_false, and_self, or_self, if_true, if_false, reduceIte, not_true_eq_false, not_false_eq_true, Int.reduceEq, Int.reduceNe, Int.reduceLT, Int.reduceLE, Int.reduceAdd, Int.reduceSub, Int.reduceMul, Int.reduceNeg, Nat.reduceAdd, Nat.reduceLeDiff, Nat.reduceEqDiff, ne_eq, List.length_cons, List.length_nil, Nat.reduceSub, k5, h'.look hT, c, b2, aw]
        refine c_qSums hT hPB hWB hRB hQB.1 hopB hsg (okW_op hoW) (fun kk pl zB H3 hF h5 h6 hb => ?_) (fun a3 j3 cs2 zB H3 h3 => ?_)
        · simp only [e_MO_qFact_4, k_MO_qFact_4, e_MO_qFact_5, k_MO_qFact_5, e_MO_qFact_6, k_MO_qFact_6, rr, sh, Nat.reduceLT, Nat.reduceMul, Int.reduceToNat, Int.reduceGT, Int.reduceGE, Int.reduceNe, true_and, and_true, true_or, or_true, false_or, or_false, and_self, or_self, if_true, if_false, reduceIte, not_true_eq_false, not_false_eq_true, Int.reduceEq, Int.reduceNe, Int.reduceLT, Int.reduceLE, Int.reduceAdd, Int.reduceSub, Int.reduceMul, Int.reduceNeg, Nat.reduceAdd, Nat.reduceLeDiff, Nat.reduceEqDiff, ne_eq, List.length_cons, List.length_nil, Nat.reduceSub]
          exact goE _ 7 outB hQB eO kk pl zB H3 hF h5 h6 hb
        · simp only [e_MO_qFact_4, k_MO_qFact_4, e_MO_qFact_5, k_MO_qFact_5, e_MO_qFact_6, k_MO_qFact_6, rr, sh, Nat.reduceLT, Nat.reduceMul, Int.reduceToNat, Int.reduceGT, Int.reduceGE, Int.reduceNe, true_and, and_true, true_or, or_true, false_or, or_false, and_self, or_self, if_true, if_false, reduceIte, not_true_eq_false, not_false_eq_true, Int.reduceEq, Int.reduceNe, Int.reduceLT, Int.reduceLE, Int.reduceAdd, Int.reduceSub, Int.reduceMul, Int.reduceNeg, Nat.reduceAdd, Nat.reduceLeDiff, Nat.reduceEqDiff, ne_eq, List.length_cons, List.length_nil, Nat.reduceSub]
          exact goK _ 7 outB rfl hQB eO _ _ _ zB H3 h3
      · obtain ⟨outB, hRB, hQB, hopB, eO⟩ := hB _ _ _ z (-23) (Or.inr (Or.inl ⟨c, rfl⟩))
        simp only [e_MO_qFact_2, k_MO_qFact_2, e_MO_qFact_3, k_MO_qFact_3, rr, sh, Nat.reduceLT, Nat.reduceMul, Int.reduceToNat, Int.reduceGT, Int.reduceGE, Int.reduceNe, true_and, and_true, true_or, or_true, false_or, or_false, and_self, or_self, if_true, if_false, reduceIte, not_true_eq_false, not_false_eq_true, Int.reduceEq, Int.reduceNe, Int.reduceLT, Int.reduceLE, Int.reduceAdd, Int.reduceSub, Int.reduceMul, Int.reduceNeg, Nat.reduceAdd, Nat.reduceLeDiff, Nat.reduceEqDiff, ne_eq, List.length_cons, List.length_nil, Nat.reduceSub, k5, h'.look hT, c, b2, aw]
        refine c_qSums hT hPB hWB hRB hQB.1 hopB hsg (okW_op hoW) (fun kk pl zB H3 hF h5 h6 hb => ?_) (fun a3 j3 cs2 zB H3 h3 => ?_)
        · simp only [e_MO_qFact_4, k_MO_qFact_4, e_MO_qFact_5, k_MO_qFact_5, e_MO_qFact_6, k_MO_qFact_6, rr, sh, Nat.reduceLT, Nat.reduceMul, Int.reduceToNat, Int.reduceGT, Int.reduceGE, Int.reduceNe, true_and, and_true, true_or, or_true, false_or, or_false, and_self, or_self, if_true, if_false, reduceIte, not_true_eq_false, not_false_eq_true, Int.reduceEq, Int.reduceNe, Int.reduceLT, Int.reduceLE, Int.reduceAdd, Int.reduceSub, Int.reduceMul, Int.reduceNeg, Nat.reduceAdd, Nat.reduceLeDiff, Nat.reduceEqDiff, ne_eq, List.length_cons, List.length_nil, Nat.reduceSub]
          exact goE _ 8 outB hQB eO kk pl zB H3 hF h5 h6 hb
        · simp only [e_MO_qFact_4, k_MO_qFact_4, e_MO_qFact_5, k_MO_qFact_5, e_MO_qFact_6, k_MO_qFact_6, rr, sh, Nat.reduceLT, Nat.reduceMul, Int.reduceToNat, Int.reduceGT, Int.reduceGE, Int.reduceNe, true_and, and_true, true_or, or_true, false_or, or_false, and_self, or_self, if_true, if_false, reduceIte, not_true_eq_false, not_false_eq_true, Int.reduceEq, Int.reduceNe, Int.reduceLT, Int.reduceLE, Int.reduceAdd, Int.reduceSub, Int.reduceMul, Int.reduceNeg, Nat.reduceAdd, Nat.reduceLeDiff, Nat.reduceEqDiff, ne_eq, List.length_cons, List.length_nil, Nat.reduceSub]
          exact goK _ 8 outB rfl hQB eO _ _ _ zB H3 h3
      · obtain ⟨outB, hRB, hQB, hopB, eO⟩ := hB _ _ _ z (-24) (Or.inr (Or.inr ⟨c, rfl⟩))
        simp only [e_MO_qFact_2, k_MO_qFact_2, e_MO_qFact_3, k_MO_qFact_3, rr, sh, Nat.reduceLT, Nat.reduceMul, Int.reduceToNat, Int.reduceGT, Int.reduceGE, Int.reduceNe, true_and, and_true, true_or, or_true, false_or, or_false, and_self, or_self, if_true, if_false, reduceIte, not_true_eq_false, not_false_eq_true, Int.reduceEq, Int.reduceNe, Int.reduceLT, Int.reduceLE, Int.reduceAdd, Int.reduceSub, Int.reduceMul, Int.reduceNeg, Nat.reduceAdd, Nat.reduceLeDiff, Nat.reduceEqDiff, ne_eq, List.length_cons, List.length_nil, Nat.reduceSub, k5, h'.look hT, c, b2, aw]
        refine c_qSums hT hPB hWB hRB hQB.1 hopB hsg (okW_op hoW) (fun kk pl zB H3 hF h5 h6 hb => ?_) (fun a3 j3 cs2 zB H3 h3 => ?_)
        · simp only [e_MO_qFact_4, k_MO_qFact_4, e_MO_qFact_5, k_MO_qFact_5, e_MO_qFact_6, k_MO_qFact_6, rr, sh, Nat.reduceLT, Nat.reduceMul, Int.reduceToNat, Int.reduceGT, Int.reduceGE, Int.reduceNe, true_and, and_true, true_or, or_true, false_or, or_false, and_self, or_self, if_true, if_false, reduceIte, not_true_eq_false, not_false_eq_true, Int.reduceEq, Int.reduceNe, Int.reduceLT, Int.reduceLE, Int.reduceAdd, Int.reduceSub, Int.reduceMul, Int.reduceNeg, Nat.reduceAdd, Nat.reduceLeDiff, Nat.reduceEqDiff, ne_eq, List.length_cons, List.length_nil, Nat.reduceSub]
          exact goE _ 9 outB hQB eO kk pl zB H3 hF h5 h6 hb
        · simp only [e_MO_qFact_4, k_MO_qFact_4, e_MO_qFact_5, k_MO_qFact_5, e_MO_qFact_6, k_MO_qFact_6, rr, sh, Nat.reduceLT, Nat.reduceMul, Int.reduceToNat, Int.reduceGT, Int.reduceGE, Int.reduceNe, true_and, and_true, true_or, or_true, false_or, or_false, and_self, or_self, if_true, if_false, reduceIte, not_true_eq_false, not_false_eq_true, Int.reduceEq, Int.reduceNe, Int.reduceLT, Int.reduceLE, Int.reduceAdd, Int.reduceSub, Int.reduceMul, Int.reduceNeg, Nat.reduceAdd, Nat.reduceLeDiff, Nat.reduceEqDiff, ne_eq, List.length_cons, List.length_nil, Nat.reduceSub]
          exact goK _ 9 outB rfl hQB eO _ _ _ zB H3 h3
    · have n1 : ¬ bz V a2 = 60 := fun z => c (Or.inl z)
      have n2 : ¬ bz V a2 = 62 := fun z => c (Or.inr (Or.inl z))
      have n3 : ¬ bz V a2 = 61 := fun z => c (Or.inr (Or.inr z))
      have := he 1 a2 (hC _ _ _ z c) _ (h'.fail (x := a2)) ((hs2 (by decide)).trans hs_same) hs_same
      simp only [e_MO_qFact_2, k_MO_qFact_2, rr, sh, Nat.reduceLT, Nat.reduceMul, Int.reduceToNat, Int.reduceGT, Int.reduceGE, Int.reduceNe, true_and, and_true, true_or, or_true, false_or, or_false, and_self, or_self, if_true, if_false, reduceIte, not_true_eq_false, not_false_eq_true, Int.reduceEq, Int.reduceNe, Int.reduceLT, Int.reduceLE, Int.reduceAdd, Int.reduceSub, Int.reduceMul, Int.reduceNeg, Nat.reduceAdd, Nat.reduceLeDiff, Nat.reduceEqDiff, ne_eq, List.length_cons, List.length_nil, Nat.reduceSub, k5, k5', h'.look hT, n1, n2, n3, b2, q_failM k5']
      exact this
end QT3
