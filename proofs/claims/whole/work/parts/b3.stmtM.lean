/-! THE BOAT'S TEXT: a statement, the reference -/
abbrev SgO : Type := Except (Int × Int) (Nat × Int × Hp)
def stS (V : Hp) (a : Nat) (j : Int) (P : Hp) : SgO := match stO V a j P with
  | .error x => .error x
  | .ok (e, P') => if bz V (skE V e) = 59 then .ok (skE V e + 1, (e : Int), P') else .error (1, (skE V e : Int))
/-- what the reference's statement writes -/
def sTS (a b : Int) : Bool := sTM a b || (decide (a = 71) && decide (b = 45))
theorem sTM_ts (a b : Int) (h : sTM a b = true) : sTS a b = true := by unfold sTS; rw [h]; rfl
theorem stO_er {V : Hp} {a : Nat} {j : Int} {P : Hp} {kk pl : Int} (h : stO V a j P = .error (kk, pl)) : kk ≠ 0 := by
  have num : ∀ {a : Nat} {j lo hi : Int} {x : Int × Int}, numO V a j lo hi = .error x → x.1 ≠ 0 := fun z => numO_er (kk := _) (p := _) z
  have sig : ∀ {a : Nat} {j most : Int} {x : Int × Int}, sigO V a j most = .error x → x.1 ≠ 0 := fun z => sigO_er (kk := _) (p := _) z
  have wd : ∀ {a : Nat} {j : Int} {w : List Int} {x : Int × Int}, wdO V a j w = .error x → x.1 ≠ 0 := fun z => wdO_er (kk := _) (p := _) z
  have nm : ∀ {a : Nat} {j : Int} {x : Int × Int}, nameO V a j P = .error x → x.1 ≠ 0 := fun z => nameO_er (kk := _) (p := _) z
  have sd : ∀ {a : Nat} {j : Int} {x : Int × Int}, sidO V a j P = .error x → x.1 ≠ 0 := fun z => sidO_er (kk := _) (p := _) z
  have key : ∀ {x : Int × Int}, stO V a j P = .error x → x.1 ≠ 0 := by
    intro x h
    unfold stO seatO rowO eachO fixO wantO nearO runO payO at h
    repeat' (split at h)
    all_goals first
      | (cases h; done)
      | (have h := Except.error.inj h; subst h; first | assumption | exact (by decide : (5 : Int) ≠ 0) | exact (by decide : (2 : Int) ≠ 0) | exact (by decide : (1 : Int) ≠ 0) | (apply num; assumption) | (apply wd; assumption) | (apply sig; assumption) | (apply nm; assumption) | (apply sd; assumption))
  exact key h
section PP
variable {d : Nat} {V P H : Hp} {Q : AV → Hp → Prop}
theorem here_w {a : Nat} {j : Int} {i : Nat} (hi : i < 17) : hereB V a j (OW.getD i []) = decide (wrI V a j OW = i) := by
  have key := wr_at (V := V) (a := a) (j := j) nod_OW (i := i) hi
  by_cases c : wrI V a j OW = i
  · rw [key.mp c, decide_eq_true c]
  · rw [decide_eq_false c]
    cases h : hereB V a j (OW.getD i []) with
    | false => rfl
    | true => exact absurd (key.mpr h) c
theorem q_takesN (hT : TapeR V) {a : Nat} {j : Int} (hM : MRd V H a j) (hs' : skE V a = a) (hW : Wds H) {i : Nat} (hi : i < 17) {c : Int} (hc : c = 74 + i) (hw : ¬ wrI V a j OW = i) : CC (d + 2) MO_takes [va 71, va c] H Q = Q (vi 0) H := by
  subst hc
  rw [q_takes hT hM.1 hM.2.1 hM.2.2.2.2.2 hM.2.2.1 hM.2.2.2.1 (by omega) (chO hW hi) (lnO hi).1, here_w hi, decide_eq_false hw, if_neg (by decide), hs', ← hM.2.1, hs_self]
  rfl
theorem q_takesY (hT : TapeR V) {a : Nat} {j : Int} (hM : MRd V H a j) (hs' : skE V a = a) (hW : Wds H) {i : Nat} (hi : i < 17) {c : Int} (hc : c = 74 + i) (hw : wrI V a j OW = i) : CC (d + 2) MO_takes [va 71, va c] H Q = Q (vi 1) (hs (hs H 71 2 (enE V a)) 71 4 (enE V a)) := by
  subst hc
  rw [q_takes hT hM.1 hM.2.1 hM.2.2.2.2.2 hM.2.2.1 hM.2.2.2.1 (by omega) (chO hW hi) (lnO hi).1, here_w hi, decide_eq_true hw, if_pos rfl]
  have e : hs H 71 2 (skE V a) = H := by rw [hs', ← hM.2.1, hs_self]
  rw [e]
  rfl
/-- behind a statement: its sign, one more told -/
theorem st_er {n : Nat} (hb : H 71 5 ≠ 0) {x : AV} (hn : n < 70) (h45 : H 71 45 = n) (hQ : Q vu (hs H 71 45 ((n + 1 : Nat) : Int))) : R (d + 5) MO_statementTold (blk MO_statementTold 9) [va 71, x] [] H Q := by
  have kw := w32_s (n := n) (Nat.lt_trans hn (by decide))
  simp only [e_MO_statementTold_9, k_MO_statementTold_9, rr, sh, Nat.reduceLT, Nat.reduceMul, Int.reduceToNat, Int.reduceGT, Int.reduceGE, Int.reduceNe, true_and, and_true, true_or, or_true, false_or, or_false, and_self, or_self, if_true, if_false, reduceIte, not_true_eq_false, not_false_eq_true, Int.reduceEq, Int.reduceNe, Int.reduceLT, Int.reduceLE, Int.reduceAdd, Int.reduceSub, Int.reduceMul, Int.reduceNeg, Nat.reduceAdd, Nat.reduceLeDiff, Nat.reduceEqDiff, ne_eq, List.length_cons, List.length_nil, Nat.reduceSub, q_asksSign' hb, h45, kw]
  exact hQ
set_option maxRecDepth 20000 in
theorem st_ok (hT : TapeR V) {a j : Nat} (hM : MRd V H a j) {n : Nat} {x : AV} (hn : n < 70) (h45 : H 71 45 = n)
    (hno : ¬ bz V (skE V a) = 59 → ∀ H', Fx sTS H H' → H' 71 5 = 1 → H' 71 6 = skE V a → Q vu H')
    (hyes : bz V (skE V a) = 59 → ∀ H', Fx sTS H H' → MRd V H' (skE V a + 1) j → H' 71 45 = ((n + 1 : Nat) : Int) → (∀ c, c ≠ 71 → H' c = H c) → Q vu H') : R (d + 5) MO_statementTold (blk MO_statementTold 9) [va 71, x] [] H Q := by
  have kw := w32_s (n := n) (Nat.lt_trans hn (by decide))
  have s := skE_rng hM.2.2.2.2.2
  by_cases c : bz V (skE V a) = 59
  · have lt := bz_in' c (by decide)
    have M1 := (hM.mv s.2).mv (b := skE V a + 1) lt
    have e45 : hs (hs H 71 2 (skE V a)) 71 2 ((skE V a + 1 : Nat) : Int) 71 45 = n := (hs2 (by decide)).trans ((hs2 (by decide)).trans h45)
    have M2 : MRd V (hs (hs (hs H 71 2 (skE V a)) 71 2 ((skE V a + 1 : Nat) : Int)) 71 45 ((n + 1 : Nat) : Int)) (skE V a + 1) j := ⟨M1.1.hs (by decide), (hs2 (by decide)).trans M1.2.1, (hs2 (by decide)).trans M1.2.2.1, (hs2 (by decide)).trans M1.2.2.2.1, (hs2 (by decide)).trans M1.2.2.2.2.1, lt⟩
    simp only [e_MO_statementTold_9, k_MO_statementTold_9, rr, sh, Nat.reduceLT, Nat.reduceMul, Int.reduceToNat, Int.reduceGT, Int.reduceGE, Int.reduceNe, true_and, and_true, true_or, or_true, false_or, or_false, and_self, or_self, if_true, if_false, reduceIte, not_true_eq_false, not_false_eq_true, Int.reduceEq, Int.reduceNe, Int.reduceLT, Int.reduceLE, Int.reduceAdd, Int.reduceSub, Int.reduceMul, Int.reduceNeg, Nat.reduceAdd, Nat.reduceLeDiff, Nat.reduceEqDiff, ne_eq, List.length_cons, List.length_nil, Nat.reduceSub, q_asksSign hT hM.1 hM.2.1 hM.2.2.2.2.2 hM.2.2.2.1, c, e45, kw]
    exact hyes c _ (((Fx.rf.hs (c := 71) (j := 2) rfl).hs (c := 71) (j := 2) rfl).hs (c := 71) (j := 45) rfl) M2 hs_same (fun c hc => by rw [hs_ne hc, hs_ne hc, hs_ne hc])
  · have e45 : hs (hs (hs H 71 2 (skE V a)) 71 5 1) 71 6 (skE V a) 71 45 = n := (hs2 (by decide)).trans ((hs2 (by decide)).trans ((hs2 (by decide)).trans h45))
    simp only [e_MO_statementTold_9, k_MO_statementTold_9, rr, sh, Nat.reduceLT, Nat.reduceMul, Int.reduceToNat, Int.reduceGT, Int.reduceGE, Int.reduceNe, true_and, and_true, true_or, or_true, false_or, or_false, and_self, or_self, if_true, if_false, reduceIte, not_true_eq_false, not_false_eq_true, Int.reduceEq, Int.reduceNe, Int.reduceLT, Int.reduceLE, Int.reduceAdd, Int.reduceSub, Int.reduceMul, Int.reduceNeg, Nat.reduceAdd, Nat.reduceLeDiff, Nat.reduceEqDiff, ne_eq, List.length_cons, List.length_nil, Nat.reduceSub, q_asksSign hT hM.1 hM.2.1 hM.2.2.2.2.2 hM.2.2.2.1, c, e45, kw]
    exact hno c _ ((((Fx.rf.hs (c := 71) (j := 2) rfl).hs (c := 71) (j := 5) rfl).hs (c := 71) (j := 6) rfl).hs (c := 71) (j := 45) rfl) ((hs2 (by decide)).trans ((hs2 (by decide)).trans hs_same)) ((hs2 (by decide)).trans hs_same)
set_option maxRecDepth 20000 in
theorem c_statementM (hP : Ptr H) (hW : Wds H) (hT : TapeR V) {a : Nat} {j : Int} (hM : MRd V H a j) (hs' : skE V a = a) (hB : TxB P) (hL : TmP P H) {n : Nat} (hn : n < 70) (h45 : H 71 45 = n)
    (he : ∀ kk pl, stS V a j P = .error (kk, pl) → ∀ H', Fx sTS H H' → H' 71 5 = kk → H' 71 6 = pl → Q vu H')
    (ho : ∀ a' j' P', stS V a j P = .ok (a', j', P') → ∀ H', Fx sTS H H' → MRd V H' a' j' → TmP P' H' → H' 71 45 = ((n + 1 : Nat) : Int) → Q vu H') : CC (d + 5) MO_statementTold [va 71] H Q := by
  have f := mo_f hP
  have a2 := hM.2.1
  have n70 : ¬ (n : Int) = 70 := fun z => absurd (Int.ofNat_inj.mp (z : (n : Int) = ((70 : Nat) : Int))) (Nat.ne_of_lt hn)
  have e := enE_rng hM.2.2.2.2.2
  have F1 : Fx sTM H (hs (hs H 71 2 (enE V a)) 71 4 (enE V a)) := (Fx.rf.hs (c := 71) (j := 2) rfl).hs (c := 71) (j := 4) rfl
  have M1 : MRd V (hs (hs H 71 2 (enE V a)) 71 4 (enE V a)) (enE V a) (enE V a) := ⟨(hM.1.hs (by decide)).hs (by decide), (hs2 (by decide)).trans hs_same, hs_same, (hs2 (by decide)).trans ((hs2 (by decide)).trans hM.2.2.2.1), (hs2 (by decide)).trans ((hs2 (by decide)).trans hM.2.2.2.2.1), e.2.1⟩
  have P1 := ptr_tm hP F1
  have W1 := wds_tm hW F1
  have L1 : TmP P (hs (hs H 71 2 (enE V a)) 71 4 (enE V a)) := hL.fx (S := sMM) ((Fx.rf.hs (c := 71) (j := 2) rfl).hs (c := 71) (j := 4) rfl) sMM_fh
  have g45 : hs (hs H 71 2 (enE V a)) 71 4 (enE V a) 71 45 = n := (hs2 (by decide)).trans ((hs2 (by decide)).trans h45)
  have g1 := mo_f P1
  have er : ∀ {x : AV} {H' : Hp} {kk pl : Int}, stO V a j P = .error (kk, pl) → kk ≠ 0 → Fx sTM H H' → H' 71 5 = kk → H' 71 6 = pl → R (d + 5) MO_statementTold (blk MO_statementTold 9) [va 71, x] [] H' Q := by
    intro x H' kk pl z z0 hF q5 q6
    refine st_er (n := n) (by rw [q5]; exact z0) hn ((hF 71 45 rfl).trans h45) ?_
    exact he kk pl (by unfold stS; rw [z]; try rfl) _ ((hF.up sTM_ts).hs (c := 71) (j := 45) rfl) ((hs2 (by decide)).trans q5) ((hs2 (by decide)).trans q6)
  have ok : ∀ {x : AV} {H' : Hp} {e' : Nat} {P' : Hp}, stO V a j P = .ok (e', P') → Fx sTM H H' → MRd V H' e' e' → TmP P' H' → R (d + 5) MO_statementTold (blk MO_statementTold 9) [va 71, x] [] H' Q := by
    intro x H' e' P' z hF hM' hL'
    refine st_ok hT hM' hn ((hF 71 45 rfl).trans h45) (fun c H2 hF2 q5 q6 => ?_) (fun c H2 hF2 hM2 q45 hc => ?_)
    · exact he 1 _ (by unfold stS; rw [z]; exact if_neg c) H2 ((hF.up sTM_ts).tr hF2) q5 q6
    · exact ho _ _ _ (by unfold stS; rw [z]; exact if_pos c) H2 ((hF.up sTM_ts).tr hF2) hM2 (fun a' b' q => by rw [hc a' (fh_71 q)]; exact hL' a' b' q) q45
  have en : ∀ kk pl, stO V a j P = .error (kk, pl) → kk ≠ 0 := fun _ _ z => stO_er z
  have t0 : ∀ {Q : AV → Hp → Prop}, ¬ wrI V a j OW = 0 → CC (d + 4) MO_takes [va 71, va 74] H Q = Q (vi 0) H := fun {Q} h => q_takesN (d := d + 2) hT hM hs' hW (i := 0) (by decide) rfl h
  have t2 : ∀ {Q : AV → Hp → Prop}, ¬ wrI V a j OW = 2 → CC (d + 4) MO_takes [va 71, va 76] H Q = Q (vi 0) H := fun {Q} h => q_takesN (d := d + 2) hT hM hs' hW (i := 2) (by decide) rfl h
  have t5 : ∀ {Q : AV → Hp → Prop}, ¬ wrI V a j OW = 5 → CC (d + 4) MO_takes [va 71, va 79] H Q = Q (vi 0) H := fun {Q} h => q_takesN (d := d + 2) hT hM hs' hW (i := 5) (by decide) rfl h
  have t6 : ∀ {Q : AV → Hp → Prop}, ¬ wrI V a j OW = 6 → CC (d + 4) MO_takes [va 71, va 80] H Q = Q (vi 0) H := fun {Q} h => q_takesN (d := d + 2) hT hM hs' hW (i := 6) (by decide) rfl h
  have t9 : ∀ {Q : AV → Hp → Prop}, ¬ wrI V a j OW = 9 → CC (d + 4) MO_takes [va 71, va 83] H Q = Q (vi 0) H := fun {Q} h => q_takesN (d := d + 2) hT hM hs' hW (i := 9) (by decide) rfl h
  have t11 : ∀ {Q : AV → Hp → Prop}, ¬ wrI V a j OW = 11 → CC (d + 4) MO_takes [va 71, va 85] H Q = Q (vi 0) H := fun {Q} h => q_takesN (d := d + 2) hT hM hs' hW (i := 11) (by decide) rfl h
  have t12 : ∀ {Q : AV → Hp → Prop}, ¬ wrI V a j OW = 12 → CC (d + 4) MO_takes [va 71, va 86] H Q = Q (vi 0) H := fun {Q} h => q_takesN (d := d + 2) hT hM hs' hW (i := 12) (by decide) rfl h
  have y0 : ∀ {Q : AV → Hp → Prop}, wrI V a j OW = 0 → CC (d + 4) MO_takes [va 71, va 74] H Q = Q (vi 1) (hs (hs H 71 2 (enE V a)) 71 4 (enE V a)) := fun {Q} h => q_takesY (d := d + 2) hT hM hs' hW (i := 0) (by decide) rfl h
  have y2 : ∀ {Q : AV → Hp → Prop}, wrI V a j OW = 2 → CC (d + 4) MO_takes [va 71, va 76] H Q = Q (vi 1) (hs (hs H 71 2 (enE V a)) 71 4 (enE V a)) := fun {Q} h => q_takesY (d := d + 2) hT hM hs' hW (i := 2) (by decide) rfl h
  have y5 : ∀ {Q : AV → Hp → Prop}, wrI V a j OW = 5 → CC (d + 4) MO_takes [va 71, va 79] H Q = Q (vi 1) (hs (hs H 71 2 (enE V a)) 71 4 (enE V a)) := fun {Q} h => q_takesY (d := d + 2) hT hM hs' hW (i := 5) (by decide) rfl h
  have y6 : ∀ {Q : AV → Hp → Prop}, wrI V a j OW = 6 → CC (d + 4) MO_takes [va 71, va 80] H Q = Q (vi 1) (hs (hs H 71 2 (enE V a)) 71 4 (enE V a)) := fun {Q} h => q_takesY (d := d + 2) hT hM hs' hW (i := 6) (by decide) rfl h
  have y9 : ∀ {Q : AV → Hp → Prop}, wrI V a j OW = 9 → CC (d + 4) MO_takes [va 71, va 83] H Q = Q (vi 1) (hs (hs H 71 2 (enE V a)) 71 4 (enE V a)) := fun {Q} h => q_takesY (d := d + 2) hT hM hs' hW (i := 9) (by decide) rfl h
  have y11 : ∀ {Q : AV → Hp → Prop}, wrI V a j OW = 11 → CC (d + 4) MO_takes [va 71, va 85] H Q = Q (vi 1) (hs (hs H 71 2 (enE V a)) 71 4 (enE V a)) := fun {Q} h => q_takesY (d := d + 2) hT hM hs' hW (i := 11) (by decide) rfl h
  have y12 : ∀ {Q : AV → Hp → Prop}, wrI V a j OW = 12 → CC (d + 4) MO_takes [va 71, va 86] H Q = Q (vi 1) (hs (hs H 71 2 (enE V a)) 71 4 (enE V a)) := fun {Q} h => q_takesY (d := d + 2) hT hM hs' hW (i := 12) (by decide) rfl h
  by_cases n0 : wrI V a j OW = 0
  · have yy := @y0
    simp only [en_MO_statementTold, e_MO_statementTold_0, k_MO_statementTold_0, e_MO_statementTold_1, k_MO_statementTold_1, e_MO_statementTold_2, k_MO_statementTold_2, e_MO_statementTold_3, k_MO_statementTold_3, e_MO_statementTold_4, k_MO_statementTold_4, e_MO_statementTold_5, k_MO_statementTold_5, e_MO_statementTold_6, k_MO_statementTold_6, e_MO_statementTold_7, k_MO_statementTold_7, e_MO_statementTold_8, k_MO_statementTold_8, rr, sh, Nat.reduceLT, Nat.reduceMul, Int.reduceToNat, Int.reduceGT, Int.reduceGE, Int.reduceNe, true_and, and_true, true_or, or_true, false_or, or_false, and_self, or_self, if_true, if_false, reduceIte, not_true_eq_false, not_false_eq_true, Int.reduceEq, Int.reduceNe, Int.reduceLT, Int.reduceLE, Int.reduceAdd, Int.reduceSub, Int.reduceMul, Int.reduceNeg, Nat.reduceAdd, Nat.reduceLeDiff, Nat.reduceEqDiff, ne_eq, List.length_cons, List.length_nil, Nat.reduceSub, f, a2, h45, n70, y0 n0]
    refine c_seatToldM (d := d) P1 W1 hT M1 hB L1 (fun c H' hF r5 r6 => ?_) (fun c kk pl z H' hF r5 r6 => ?_) (fun c e' P' z H' hF hM' hL' => ?_)
    · exact er (by unfold stO; rw [n0]; simp only [Int.reduceEq, if_false, if_true, if_pos c, reduceIte, hs']) (by decide) (F1.tr hF) r5 r6
    · have z' : stO V a j P = .error (kk, pl) := by unfold stO; rw [n0]; simp only [Int.reduceEq, if_false, if_true, if_neg c, reduceIte]; exact z
      exact er z' (en _ _ z') (F1.tr hF) r5 r6
    · exact ok (by unfold stO; rw [n0]; simp only [Int.reduceEq, if_false, if_true, if_neg c, reduceIte]; exact z) (F1.tr hF) hM' hL'
  by_cases n2 : wrI V a j OW = 2
  · have yy := @y2
    simp only [en_MO_statementTold, e_MO_statementTold_0, k_MO_statementTold_0, e_MO_statementTold_1, k_MO_statementTold_1, e_MO_statementTold_2, k_MO_statementTold_2, e_MO_statementTold_3, k_MO_statementTold_3, e_MO_statementTold_4, k_MO_statementTold_4, e_MO_statementTold_5, k_MO_statementTold_5, e_MO_statementTold_6, k_MO_statementTold_6, e_MO_statementTold_7, k_MO_statementTold_7, e_MO_statementTold_8, k_MO_statementTold_8, rr, sh, Nat.reduceLT, Nat.reduceMul, Int.reduceToNat, Int.reduceGT, Int.reduceGE, Int.reduceNe, true_and, and_true, true_or, or_true, false_or, or_false, and_self, or_self, if_true, if_false, reduceIte, not_true_eq_false, not_false_eq_true, Int.reduceEq, Int.reduceNe, Int.reduceLT, Int.reduceLE, Int.reduceAdd, Int.reduceSub, Int.reduceMul, Int.reduceNeg, Nat.reduceAdd, Nat.reduceLeDiff, Nat.reduceEqDiff, ne_eq, List.length_cons, List.length_nil, Nat.reduceSub, f, a2, h45, n70, t0 n0, y2 n2]
    refine c_rowerToldM (d := d) P1 W1 hT M1 hB L1 (fun c H' hF r5 r6 => ?_) (fun c kk pl z H' hF r5 r6 => ?_) (fun c e' P' z H' hF hM' hL' => ?_)
    · exact er (by unfold stO; rw [n2]; simp only [Int.reduceEq, if_false, if_true, if_pos c, reduceIte, hs']) (by decide) (F1.tr hF) r5 r6
    · have z' : stO V a j P = .error (kk, pl) := by unfold stO; rw [n2]; simp only [Int.reduceEq, if_false, if_true, if_neg c, reduceIte]; exact z
      exact er z' (en _ _ z') (F1.tr hF) r5 r6
    · exact ok (by unfold stO; rw [n2]; simp only [Int.reduceEq, if_false, if_true, if_neg c, reduceIte]; exact z) (F1.tr hF) hM' hL'
  by_cases n5 : wrI V a j OW = 5
  · have yy := @y5
    simp only [en_MO_statementTold, e_MO_statementTold_0, k_MO_statementTold_0, e_MO_statementTold_1, k_MO_statementTold_1, e_MO_statementTold_2, k_MO_statementTold_2, e_MO_statementTold_3, k_MO_statementTold_3, e_MO_statementTold_4, k_MO_statementTold_4, e_MO_statementTold_5, k_MO_statementTold_5, e_MO_statementTold_6, k_MO_statementTold_6, e_MO_statementTold_7, k_MO_statementTold_7, e_MO_statementTold_8, k_MO_statementTold_8, rr, sh, Nat.reduceLT, Nat.reduceMul, Int.reduceToNat, Int.reduceGT, Int.reduceGE, Int.reduceNe, true_and, and_true, true_or, or_true, false_or, or_false, and_self, or_self, if_true, if_false, reduceIte, not_true_eq_false, not_false_eq_true, Int.reduceEq, Int.reduceNe, Int.reduceLT, Int.reduceLE, Int.reduceAdd, Int.reduceSub, Int.reduceMul, Int.reduceNeg, Nat.reduceAdd, Nat.reduceLeDiff, Nat.reduceEqDiff, ne_eq, List.length_cons, List.length_nil, Nat.reduceSub, f, g1, a2, h45, n70, t0 n0, t2 n2, y5 n5]
    refine x_numM (d := d + 3) hT M1 (fun kk pl z H' r hF r5 r6 _ _ => ?_) (fun e' v z H' hF hM' q10 => ?_)
    · have z' : stO V a j P = .error (kk, pl) := by unfold stO; rw [n5]; show eachO V (enE V a) (enE V a) P = _; unfold eachO; rw [z]; try rfl
      simp only [rr, sh, Nat.reduceLT, Nat.reduceMul, Int.reduceToNat, Int.reduceGT, Int.reduceGE, Int.reduceNe, true_and, and_true, true_or, or_true, false_or, or_false, and_self, or_self, if_true, if_false, reduceIte, not_true_eq_false, not_false_eq_true, Int.reduceEq, Int.reduceNe, Int.reduceLT, Int.reduceLE, Int.reduceAdd, Int.reduceSub, Int.reduceMul, Int.reduceNeg, Nat.reduceAdd, Nat.reduceLeDiff, Nat.reduceEqDiff, ne_eq, List.length_cons, List.length_nil, Nat.reduceSub]
      exact er z' (en _ _ z') ((F1.tr (fx_lt hF)).hs (c := 98) (j := 0) rfl) ((hs_ne' (by decide)).trans r5) ((hs_ne' (by decide)).trans r6)
    · have z' : stO V a j P = .ok (e', hs P 98 0 v) := by unfold stO; rw [n5]; show eachO V (enE V a) (enE V a) P = _; unfold eachO; rw [z]; try rfl
      simp only [rr, sh, Nat.reduceLT, Nat.reduceMul, Int.reduceToNat, Int.reduceGT, Int.reduceGE, Int.reduceNe, true_and, and_true, true_or, or_true, false_or, or_false, and_self, or_self, if_true, if_false, reduceIte, not_true_eq_false, not_false_eq_true, Int.reduceEq, Int.reduceNe, Int.reduceLT, Int.reduceLE, Int.reduceAdd, Int.reduceSub, Int.reduceMul, Int.reduceNeg, Nat.reduceAdd, Nat.reduceLeDiff, Nat.reduceEqDiff, ne_eq, List.length_cons, List.length_nil, Nat.reduceSub]
      exact ok z' ((F1.tr (fx_lt hF)).hs (c := 98) (j := 0) rfl) (hM'.put (by decide) (by decide)) (L1.lm hF).put
  by_cases n6 : wrI V a j OW = 6
  · have yy := @y6
    simp only [en_MO_statementTold, e_MO_statementTold_0, k_MO_statementTold_0, e_MO_statementTold_1, k_MO_statementTold_1, e_MO_statementTold_2, k_MO_statementTold_2, e_MO_statementTold_3, k_MO_statementTold_3, e_MO_statementTold_4, k_MO_statementTold_4, e_MO_statementTold_5, k_MO_statementTold_5, e_MO_statementTold_6, k_MO_statementTold_6, e_MO_statementTold_7, k_MO_statementTold_7, e_MO_statementTold_8, k_MO_statementTold_8, rr, sh, Nat.reduceLT, Nat.reduceMul, Int.reduceToNat, Int.reduceGT, Int.reduceGE, Int.reduceNe, true_and, and_true, true_or, or_true, false_or, or_false, and_self, or_self, if_true, if_false, reduceIte, not_true_eq_false, not_false_eq_true, Int.reduceEq, Int.reduceNe, Int.reduceLT, Int.reduceLE, Int.reduceAdd, Int.reduceSub, Int.reduceMul, Int.reduceNeg, Nat.reduceAdd, Nat.reduceLeDiff, Nat.reduceEqDiff, ne_eq, List.length_cons, List.length_nil, Nat.reduceSub, f, a2, h45, n70, t0 n0, t2 n2, t5 n5, y6 n6]
    refine c_fixToldM (d := d) P1 W1 hT M1 hB L1 (fun kk pl z H' hF r5 r6 => ?_) (fun e' P' z H' hF hM' hL' => ?_)
    · have z' : stO V a j P = .error (kk, pl) := by unfold stO; rw [n6]; exact z
      exact er z' (en _ _ z') (F1.tr hF) r5 r6
    · exact ok (by unfold stO; rw [n6]; exact z) (F1.tr hF) hM' hL'
  by_cases n9 : wrI V a j OW = 9
  · have yy := @y9
    simp only [en_MO_statementTold, e_MO_statementTold_0, k_MO_statementTold_0, e_MO_statementTold_1, k_MO_statementTold_1, e_MO_statementTold_2, k_MO_statementTold_2, e_MO_statementTold_3, k_MO_statementTold_3, e_MO_statementTold_4, k_MO_statementTold_4, e_MO_statementTold_5, k_MO_statementTold_5, e_MO_statementTold_6, k_MO_statementTold_6, e_MO_statementTold_7, k_MO_statementTold_7, e_MO_statementTold_8, k_MO_statementTold_8, rr, sh, Nat.reduceLT, Nat.reduceMul, Int.reduceToNat, Int.reduceGT, Int.reduceGE, Int.reduceNe, true_and, and_true, true_or, or_true, false_or, or_false, and_self, or_self, if_true, if_false, reduceIte, not_true_eq_false, not_false_eq_true, Int.reduceEq, Int.reduceNe, Int.reduceLT, Int.reduceLE, Int.reduceAdd, Int.reduceSub, Int.reduceMul, Int.reduceNeg, Nat.reduceAdd, Nat.reduceLeDiff, Nat.reduceEqDiff, ne_eq, List.length_cons, List.length_nil, Nat.reduceSub, f, a2, h45, n70, t0 n0, t2 n2, t5 n5, t6 n6, y9 n9]
    refine c_wantToldM (d := d) P1 W1 hT M1 L1 (fun kk pl z H' hF r5 r6 => ?_) (fun e' P' z H' hF hM' hL' => ?_)
    · have z' : stO V a j P = .error (kk, pl) := by unfold stO; rw [n9]; exact z
      exact er z' (en _ _ z') (F1.tr hF) r5 r6
    · exact ok (by unfold stO; rw [n9]; exact z) (F1.tr hF) hM' hL'
  by_cases n11 : wrI V a j OW = 11
  · have yy := @y11
    simp only [en_MO_statementTold, e_MO_statementTold_0, k_MO_statementTold_0, e_MO_statementTold_1, k_MO_statementTold_1, e_MO_statementTold_2, k_MO_statementTold_2, e_MO_statementTold_3, k_MO_statementTold_3, e_MO_statementTold_4, k_MO_statementTold_4, e_MO_statementTold_5, k_MO_statementTold_5, e_MO_statementTold_6, k_MO_statementTold_6, e_MO_statementTold_7, k_MO_statementTold_7, e_MO_statementTold_8, k_MO_statementTold_8, rr, sh, Nat.reduceLT, Nat.reduceMul, Int.reduceToNat, Int.reduceGT, Int.reduceGE, Int.reduceNe, true_and, and_true, true_or, or_true, false_or, or_false, and_self, or_self, if_true, if_false, reduceIte, not_true_eq_false, not_false_eq_true, Int.reduceEq, Int.reduceNe, Int.reduceLT, Int.reduceLE, Int.reduceAdd, Int.reduceSub, Int.reduceMul, Int.reduceNeg, Nat.reduceAdd, Nat.reduceLeDiff, Nat.reduceEqDiff, ne_eq, List.length_cons, List.length_nil, Nat.reduceSub, f, g1, a2, h45, n70, t0 n0, t2 n2, t5 n5, t6 n6, t9 n9, y11 n11]
    refine x_numM (d := d + 3) hT M1 (fun kk pl z H' r hF r5 r6 _ _ => ?_) (fun e' v z H' hF hM' q10 => ?_)
    · have z' : stO V a j P = .error (kk, pl) := by unfold stO; rw [n11]; show nearO V (enE V a) (enE V a) P = _; unfold nearO; rw [z]; try rfl
      simp only [rr, sh, Nat.reduceLT, Nat.reduceMul, Int.reduceToNat, Int.reduceGT, Int.reduceGE, Int.reduceNe, true_and, and_true, true_or, or_true, false_or, or_false, and_self, or_self, if_true, if_false, reduceIte, not_true_eq_false, not_false_eq_true, Int.reduceEq, Int.reduceNe, Int.reduceLT, Int.reduceLE, Int.reduceAdd, Int.reduceSub, Int.reduceMul, Int.reduceNeg, Nat.reduceAdd, Nat.reduceLeDiff, Nat.reduceEqDiff, ne_eq, List.length_cons, List.length_nil, Nat.reduceSub]
      exact er z' (en _ _ z') ((F1.tr (fx_lt hF)).hs (c := 99) (j := 0) rfl) ((hs_ne' (by decide)).trans r5) ((hs_ne' (by decide)).trans r6)
    · have z' : stO V a j P = .ok (e', hs P 99 0 v) := by unfold stO; rw [n11]; show nearO V (enE V a) (enE V a) P = _; unfold nearO; rw [z]; try rfl
      simp only [rr, sh, Nat.reduceLT, Nat.reduceMul, Int.reduceToNat, Int.reduceGT, Int.reduceGE, Int.reduceNe, true_and, and_true, true_or, or_true, false_or, or_false, and_self, or_self, if_true, if_false, reduceIte, not_true_eq_false, not_false_eq_true, Int.reduceEq, Int.reduceNe, Int.reduceLT, Int.reduceLE, Int.reduceAdd, Int.reduceSub, Int.reduceMul, Int.reduceNeg, Nat.reduceAdd, Nat.reduceLeDiff, Nat.reduceEqDiff, ne_eq, List.length_cons, List.length_nil, Nat.reduceSub]
      exact ok z' ((F1.tr (fx_lt hF)).hs (c := 99) (j := 0) rfl) (hM'.put (by decide) (by decide)) (L1.lm hF).put
  by_cases n12 : wrI V a j OW = 12
  · have yy := @y12
    simp only [en_MO_statementTold, e_MO_statementTold_0, k_MO_statementTold_0, e_MO_statementTold_1, k_MO_statementTold_1, e_MO_statementTold_2, k_MO_statementTold_2, e_MO_statementTold_3, k_MO_statementTold_3, e_MO_statementTold_4, k_MO_statementTold_4, e_MO_statementTold_5, k_MO_statementTold_5, e_MO_statementTold_6, k_MO_statementTold_6, e_MO_statementTold_7, k_MO_statementTold_7, e_MO_statementTold_8, k_MO_statementTold_8, rr, sh, Nat.reduceLT, Nat.reduceMul, Int.reduceToNat, Int.reduceGT, Int.reduceGE, Int.reduceNe, true_and, and_true, true_or, or_true, false_or, or_false, and_self, or_self, if_true, if_false, reduceIte, not_true_eq_false, not_false_eq_true, Int.reduceEq, Int.reduceNe, Int.reduceLT, Int.reduceLE, Int.reduceAdd, Int.reduceSub, Int.reduceMul, Int.reduceNeg, Nat.reduceAdd, Nat.reduceLeDiff, Nat.reduceEqDiff, ne_eq, List.length_cons, List.length_nil, Nat.reduceSub, f, a2, h45, n70, t0 n0, t2 n2, t5 n5, t6 n6, t9 n9, t11 n11, y12 n12]
    refine c_runToldM (d := d) P1 W1 hT M1 hB L1 (fun c H' hF r5 r6 => ?_) (fun c kk pl z H' hF r5 r6 => ?_) (fun c e' P' z H' hF hM' hL' => ?_)
    · exact er (by unfold stO; rw [n12]; simp only [Int.reduceEq, if_false, if_true, if_pos c, reduceIte, hs']) (by decide) (F1.tr hF) r5 r6
    · have z' : stO V a j P = .error (kk, pl) := by unfold stO; rw [n12]; simp only [Int.reduceEq, if_false, if_true, if_neg c, reduceIte]; exact z
      exact er z' (en _ _ z') (F1.tr hF) r5 r6
    · exact ok (by unfold stO; rw [n12]; simp only [Int.reduceEq, if_false, if_true, if_neg c, reduceIte]; exact z) (F1.tr hF) hM' hL'
  simp only [en_MO_statementTold, e_MO_statementTold_0, k_MO_statementTold_0, e_MO_statementTold_1, k_MO_statementTold_1, e_MO_statementTold_2, k_MO_statementTold_2, e_MO_statementTold_3, k_MO_statementTold_3, e_MO_statementTold_4, k_MO_statementTold_4, e_MO_statementTold_5, k_MO_statementTold_5, e_MO_statementTold_6, k_MO_statementTold_6, e_MO_statementTold_7, k_MO_statementTold_7, e_MO_statementTold_8, k_MO_statementTold_8, rr, sh, Nat.reduceLT, Nat.reduceMul, Int.reduceToNat, Int.reduceGT, Int.reduceGE, Int.reduceNe, true_and, and_true, true_or, or_true, false_or, or_false, and_self, or_self, if_true, if_false, reduceIte, not_true_eq_false, not_false_eq_true, Int.reduceEq, Int.reduceNe, Int.reduceLT, Int.reduceLE, Int.reduceAdd, Int.reduceSub, Int.reduceMul, Int.reduceNeg, Nat.reduceAdd, Nat.reduceLeDiff, Nat.reduceEqDiff, ne_eq, List.length_cons, List.length_nil, Nat.reduceSub, f, a2, h45, n70, t0 n0, t2 n2, t5 n5, t6 n6, t9 n9, t11 n11, t12 n12]
  have h15 : hereB V a j (OW.getD 15 []) = decide (wrI V a j OW = 15) := here_w (i := 15) (by decide)
  clear t0 t2 t5 t6 t9 t11 t12 y0 y2 y5 y6 y9 y11 y12
  refine x_wdMO (d := d + 1) (i := 15) hT hM hW (by decide) rfl (fun kk pl z H' hF r5 r6 => ?_) (fun e2 u z H2 hF2 hM2 => ?_)
  · have k1 : H' 71 5 ≠ 0 := by rw [r5]; exact wdO_er z
    have nb : ¬ wrI V a j OW = 15 := fun w => by
      unfold wdO at z
      rw [h15, decide_eq_true w, if_pos rfl] at z
      cases z
    have z2 : (kk, pl) = ((1 : Int), (skE V a : Int)) := by
      unfold wdO at z
      rw [h15, decide_eq_false nb, if_neg (by decide)] at z
      exact (Except.error.inj z).symm
    have z' : stO V a j P = .error (kk, pl) := by
      unfold stO
      rw [if_neg n0, if_neg n2, if_neg n5, if_neg n6, if_neg n9, if_neg n11, if_neg n12, if_neg nb, z2]
    simp only [rr, sh, Nat.reduceLT, Nat.reduceMul, Int.reduceToNat, Int.reduceGT, Int.reduceGE, Int.reduceNe, true_and, and_true, true_or, or_true, false_or, or_false, and_self, or_self, if_true, if_false, reduceIte, not_true_eq_false, not_false_eq_true, Int.reduceEq, Int.reduceNe, Int.reduceLT, Int.reduceLE, Int.reduceAdd, Int.reduceSub, Int.reduceMul, Int.reduceNeg, Nat.reduceAdd, Nat.reduceLeDiff, Nat.reduceEqDiff, ne_eq, List.length_cons, List.length_nil, Nat.reduceSub, k1]
    exact er z' (wdO_er z) (fx_lt hF) r5 r6
  · have w : wrI V a j OW = 15 := by
      apply Classical.byContradiction
      intro w
      unfold wdO at z
      rw [h15, decide_eq_false w, if_neg (by decide)] at z
      cases z
    have ee := (wdO_ok hM.2.2.2.2.2 (lnO (i := 15) (by decide)).2 z).2.2
    subst ee
    have k1 := hM2.2.2.2.1
    have F2 := fx_lt hF2
    have eq : stO V a j P = if yTx P = 12 then .error (5, (skE V a : Int)) else payO V (enE V a) (enE V a) P := by
      unfold stO
      rw [if_neg n0, if_neg n2, if_neg n5, if_neg n6, if_neg n9, if_neg n11, if_neg n12, if_pos w]
    simp only [rr, sh, Nat.reduceLT, Nat.reduceMul, Int.reduceToNat, Int.reduceGT, Int.reduceGE, Int.reduceNe, true_and, and_true, true_or, or_true, false_or, or_false, and_self, or_self, if_true, if_false, reduceIte, not_true_eq_false, not_false_eq_true, Int.reduceEq, Int.reduceNe, Int.reduceLT, Int.reduceLE, Int.reduceAdd, Int.reduceSub, Int.reduceMul, Int.reduceNeg, Nat.reduceAdd, Nat.reduceLeDiff, Nat.reduceEqDiff, ne_eq, List.length_cons, List.length_nil, Nat.reduceSub, k1]
    refine c_payToldM (d := d) (ptr_tm hP F2) (wds_tm hW F2) hT hM2 hB (hL.lm hF2) (fun c H' hF r5 r6 => ?_) (fun c kk pl z H' hF r5 r6 => ?_) (fun c e' P' z H' hF hM' hL' => ?_)
    · exact er (by rw [eq, if_pos c, hs']) (by decide) (F2.tr hF) r5 r6
    · have z' : stO V a j P = .error (kk, pl) := by rw [eq, if_neg c]; exact z
      exact er z' (en _ _ z') (F2.tr hF) r5 r6
    · exact ok (by rw [eq, if_neg c]; exact z) (F2.tr hF) hM' hL'
end PP
