/-! THE BOAT'S TEXT: statements, the class -/
abbrev StO : Type := Except (Int × Int) (Nat × Hp)
def eachO (V : Hp) (a : Nat) (j : Int) (P : Hp) : StO := match numO V a j 0 12 with
  | .error x => .error x
  | .ok (e, v) => .ok (e, hs P 98 0 v)
def nearO (V : Hp) (a : Nat) (j : Int) (P : Hp) : StO := match numO V a j 0 9999 with
  | .error x => .error x
  | .ok (e, v) => .ok (e, hs P 99 0 v)
def seatO (V : Hp) (a : Nat) (j : Int) (P : Hp) : StO := match numO V a j 1 99 with
  | .error x => .error x
  | .ok (e, v) => if sAt P v = -1 then (match wdO V e e (OW.getD 1 []) with
    | .error x => .error x
    | .ok (e2, _) => match numO V e2 e2 1 99 with
      | .error x => .error x
      | .ok (e3, w) => .ok (e3, seatP P v w)) else .error (2, (skE V a : Int))
def fixO (V : Hp) (a : Nat) (j : Int) (P : Hp) : StO := match numO V a j 0 99999 with
  | .error x => .error x
  | .ok (e, v) => if sAt P v = -1 then .error (2, (skE V a : Int)) else if hereB V e e (OW.getD 8 []) = true then .ok (enE V e, fixP P (sAt P v).toNat 2) else (match wdO V e e (OW.getD 7 []) with
    | .error x => .error x
    | .ok (e2, _) => .ok (e2, fixP P (sAt P v).toNat 1))
def wantO (V : Hp) (a : Nat) (j : Int) (P : Hp) : StO := match numO V a j 0 3 with
  | .error x => .error x
  | .ok (e, q) => match wdO V e e (OW.getD 10 []) with
    | .error x => .error x
    | .ok (e2, _) => match sigO V e2 e2 9999 with
      | .error x => .error x
      | .ok (e3, v) => .ok (e3, wantP P q v)
def payO (V : Hp) (a : Nat) (j : Int) (P : Hp) : StO := match numO V a j 1 999 with
  | .error x => .error x
  | .ok (e, v) => match wdO V e e (OW.getD 16 []) with
    | .error x => .error x
    | .ok (e2, _) => match numO V e2 e2 0 999 with
      | .error x => .error x
      | .ok (e3, w) => .ok (e3, payP P v w)
def rowO (V : Hp) (a : Nat) (j : Int) (P : Hp) : StO := match nameO V a j P with
  | .error x => .error x
  | .ok (e, x) => match wdO V e e (OW.getD 3 []) with
    | .error x => .error x
    | .ok (e2, _) => match numO V e2 e2 1 99 with
      | .error x => .error x
      | .ok (e3, v) => match wdO V e3 e3 (OW.getD 4 []) with
        | .error x => .error x
        | .ok (e4, _) => match numO V e4 e4 0 9 with
          | .error x => .error x
          | .ok (e5, w) => .ok (e5, rowP P x v w)
theorem wdO_sk {V : Hp} {a : Nat} (hn : a ≤ tpN V) {j : Int} {w : List Int} : wdO V (skE V a) j w = wdO V a j w := by
  unfold wdO
  rw [hereB_sk hn, enE_sk hn, skE_sk hn]
section PI
variable {d : Nat} {V P H : Hp} {p : Int} {Q : AV → Hp → Prop}
theorem x_wdCO (hT : TapeR V) {a : Nat} {j : Int} (hC : CRd V H a j) {i : Nat} (hi : i < 17) {i' : Int} (hi' : i' = i)
    (he : ∀ kk pl, wdO V a j (OW.getD i []) = .error (kk, pl) → ∀ H', Fx sLX H H' → H' 2 6 = kk → H' 2 7 = pl → Q (vi 0) H')
    (ho : ∀ e v, wdO V a j (OW.getD i []) = .ok (e, v) → ∀ H', Fx sLX H H' → CRd V H' e e → Q (vi 1) H') : CC (d + 4) TP_takeWord [va 2, va 901, vi i'] H Q := by
  subst hi'
  exact x_wdC hT hC stw_OW nod_OW (i := i) hi he ho

theorem each_pl {v : Int} (hL : PlT P H p) : PlT (hs P 98 0 v) (hs H p 10 v) p := by
  have o : ∀ a : Int, a ≠ 98 → hs P 98 0 v a = P a := fun a h => hs_ne h
  have oh : ∀ a : Int, a ≠ p → hs H p 10 v a = H a := fun a h => hs_ne h
  have op : ∀ b : Int, b ≠ 10 → hs H p 10 v p b = H p b := fun b h => hs2 (fun z => h z.2)
  obtain ⟨⟨a0, a1, a2, a3, a4, a5⟩, gR⟩ := hL
  unfold PlT sTx rTx uTx yTx
  rw [op 0 (by decide), op 6 (by decide), op 13 (by decide), op 17 (by decide), op 12 (by decide), op 4 (by decide), op 5 (by decide), oh (p + 1) (by omega), oh (p + 2) (by omega), oh (p + 3) (by omega), oh (p + 4) (by omega), oh (p + 5) (by omega), oh (p + 6) (by omega), oh (p + 7) (by omega), oh (p + 8) (by omega), oh (p + 9) (by omega), oh (p + 10) (by omega), oh (p + 11) (by omega), oh (p + 12) (by omega), o 91 (by decide), o 92 (by decide), o 93 (by decide), o 94 (by decide), o 95 (by decide), o 96 (by decide), o 97 (by decide), o 99 (by decide), o 100 (by decide), o 101 (by decide), o 102 (by decide), o 103 (by decide), o 104 (by decide), o 105 (by decide), o 106 (by decide), hs_same, hs_same]
  exact ⟨⟨a0, a1, a2, a3, rfl, a5⟩, gR⟩
theorem each_B {v : Int} (hB : TxB P) (hv : -1 ≤ v ∧ v ≤ 12) : TxB (hs P 98 0 v) := by
  have o : ∀ a : Int, a ≠ 98 → hs P 98 0 v a = P a := fun a h => hs_ne h
  obtain ⟨b0, b1, b2, b3, b4, b5, b6, b7, b8, b9, b10, bR⟩ := hB
  unfold TxB sTx rTx uTx yTx
  rw [o 91 (by decide), o 92 (by decide), o 93 (by decide), o 94 (by decide), o 96 (by decide), o 97 (by decide), o 99 (by decide), o 100 (by decide), o 101 (by decide), o 103 (by decide), o 104 (by decide), o 105 (by decide), o 106 (by decide), hs_same]
  exact ⟨b0, b1, b2, b3, b4, b5, b6, b7, b8, hv, b10, bR⟩

theorem near_pl {v : Int} (hL : PlT P H p) : PlT (hs P 99 0 v) (hs H p 12 v) p := by
  have o : ∀ a : Int, a ≠ 99 → hs P 99 0 v a = P a := fun a h => hs_ne h
  have oh : ∀ a : Int, a ≠ p → hs H p 12 v a = H a := fun a h => hs_ne h
  have op : ∀ b : Int, b ≠ 12 → hs H p 12 v p b = H p b := fun b h => hs2 (fun z => h z.2)
  obtain ⟨⟨a0, a1, a2, a3, a4, a5⟩, gR⟩ := hL
  unfold PlT sTx rTx uTx yTx
  rw [op 0 (by decide), op 6 (by decide), op 13 (by decide), op 17 (by decide), op 10 (by decide), op 4 (by decide), op 5 (by decide), oh (p + 1) (by omega), oh (p + 2) (by omega), oh (p + 3) (by omega), oh (p + 4) (by omega), oh (p + 5) (by omega), oh (p + 6) (by omega), oh (p + 7) (by omega), oh (p + 8) (by omega), oh (p + 9) (by omega), oh (p + 10) (by omega), oh (p + 11) (by omega), oh (p + 12) (by omega), o 91 (by decide), o 92 (by decide), o 93 (by decide), o 94 (by decide), o 95 (by decide), o 96 (by decide), o 97 (by decide), o 98 (by decide), o 100 (by decide), o 101 (by decide), o 102 (by decide), o 103 (by decide), o 104 (by decide), o 105 (by decide), o 106 (by decide), hs_same, hs_same]
  exact ⟨⟨a0, a1, a2, a3, a4, rfl⟩, gR⟩
theorem near_B {v : Int} (hB : TxB P) (hv : 0 ≤ v ∧ v ≤ 9999) : TxB (hs P 99 0 v) := by
  have o : ∀ a : Int, a ≠ 99 → hs P 99 0 v a = P a := fun a h => hs_ne h
  obtain ⟨b0, b1, b2, b3, b4, b5, b6, b7, b8, b9, b10, bR⟩ := hB
  unfold TxB sTx rTx uTx yTx
  rw [o 91 (by decide), o 92 (by decide), o 93 (by decide), o 94 (by decide), o 96 (by decide), o 97 (by decide), o 98 (by decide), o 100 (by decide), o 101 (by decide), o 103 (by decide), o 104 (by decide), o 105 (by decide), o 106 (by decide), hs_same]
  exact ⟨b0, b1, b2, b3, b4, b5, b6, b7, b8, b9, hv, bR⟩
set_option maxRecDepth 20000 in
theorem c_eachTold (hp : p = 5 ∨ p = 25) (hT : TapeR V) {a : Nat} {j : Int} (hC : CRd V H a j) (hL : PlT P H p)
    (he : ∀ kk pl, eachO V a j P = .error (kk, pl) → ∀ H', Fx (sCX p) H H' → H' 2 6 = kk → H' 2 7 = pl → Q (vi 0) H')
    (ho : ∀ e P', eachO V a j P = .ok (e, P') → ∀ H', Fx (sCX p) H H' → CRd V H' e e → PlT P' H' p → Q (vi 1) H') : CC (d + 3) BT_eachTold [va 2, va p] H Q := by
  have x1 : shc p = 5 := by rcases hp with rfl | rfl <;> rfl
  simp only [en_BT_eachTold, e_BT_eachTold_0, k_BT_eachTold_0, rr, sh, Nat.reduceLT, Nat.reduceMul, Int.reduceToNat, Int.reduceGT, Int.reduceGE, Int.reduceNe, true_and, and_true, true_or, or_true, false_or, or_false, and_self, or_self, if_true, if_false, reduceIte, not_true_eq_false, not_false_eq_true, Int.reduceEq, Int.reduceNe, Int.reduceLT, Int.reduceLE, Int.reduceAdd, Int.reduceSub, Int.reduceMul, Int.reduceNeg, Nat.reduceAdd, Nat.reduceLeDiff, Nat.reduceEqDiff, ne_eq, List.length_cons, List.length_nil, Nat.reduceSub]
  refine x_numC (d := d) hT hC (fun kk pl e H' hF q6 q7 => ?_) (fun e v eo H' hF hC' q4 q5 => ?_)
  · simp only [rr, sh, Nat.reduceLT, Nat.reduceMul, Int.reduceToNat, Int.reduceGT, Int.reduceGE, Int.reduceNe, true_and, and_true, true_or, or_true, false_or, or_false, and_self, or_self, if_true, if_false, reduceIte, not_true_eq_false, not_false_eq_true, Int.reduceEq, Int.reduceNe, Int.reduceLT, Int.reduceLE, Int.reduceAdd, Int.reduceSub, Int.reduceMul, Int.reduceNeg, Nat.reduceAdd, Nat.reduceLeDiff, Nat.reduceEqDiff, ne_eq, List.length_cons, List.length_nil, Nat.reduceSub]
    exact he kk pl (by unfold eachO; rw [e]; try rfl) H' (hF.up (sLX_cx p)) q6 q7
  · simp only [e_BT_eachTold_1, k_BT_eachTold_1, rr, sh, Nat.reduceLT, Nat.reduceMul, Int.reduceToNat, Int.reduceGT, Int.reduceGE, Int.reduceNe, true_and, and_true, true_or, or_true, false_or, or_false, and_self, or_self, if_true, if_false, reduceIte, not_true_eq_false, not_false_eq_true, Int.reduceEq, Int.reduceNe, Int.reduceLT, Int.reduceLE, Int.reduceAdd, Int.reduceSub, Int.reduceMul, Int.reduceNeg, Nat.reduceAdd, Nat.reduceLeDiff, Nat.reduceEqDiff, ne_eq, List.length_cons, List.length_nil, Nat.reduceSub, x1, q4]
    have F2 : Fx (sPX p) H' (hs H' p 10 v) := Fx.rf.hs (sPX_p (by decide))
    exact ho e _ (by unfold eachO; rw [eo]; try rfl) _ ((hF.up (sLX_cx p)).tr (F2.up (sPX_cx p))) (hC'.px hp F2) (each_pl (hL.lx hp hF))
set_option maxRecDepth 20000 in
theorem c_nearTold (hp : p = 5 ∨ p = 25) (hT : TapeR V) {a : Nat} {j : Int} (hC : CRd V H a j) (hL : PlT P H p)
    (he : ∀ kk pl, nearO V a j P = .error (kk, pl) → ∀ H', Fx (sCX p) H H' → H' 2 6 = kk → H' 2 7 = pl → Q (vi 0) H')
    (ho : ∀ e P', nearO V a j P = .ok (e, P') → ∀ H', Fx (sCX p) H H' → CRd V H' e e → PlT P' H' p → Q (vi 1) H') : CC (d + 3) BT_nearTold [va 2, va p] H Q := by
  have x1 : shc p = 5 := by rcases hp with rfl | rfl <;> rfl
  simp only [en_BT_nearTold, e_BT_nearTold_0, k_BT_nearTold_0, rr, sh, Nat.reduceLT, Nat.reduceMul, Int.reduceToNat, Int.reduceGT, Int.reduceGE, Int.reduceNe, true_and, and_true, true_or, or_true, false_or, or_false, and_self, or_self, if_true, if_false, reduceIte, not_true_eq_false, not_false_eq_true, Int.reduceEq, Int.reduceNe, Int.reduceLT, Int.reduceLE, Int.reduceAdd, Int.reduceSub, Int.reduceMul, Int.reduceNeg, Nat.reduceAdd, Nat.reduceLeDiff, Nat.reduceEqDiff, ne_eq, List.length_cons, List.length_nil, Nat.reduceSub]
  refine x_numC (d := d) hT hC (fun kk pl e H' hF q6 q7 => ?_) (fun e v eo H' hF hC' q4 q5 => ?_)
  · simp only [rr, sh, Nat.reduceLT, Nat.reduceMul, Int.reduceToNat, Int.reduceGT, Int.reduceGE, Int.reduceNe, true_and, and_true, true_or, or_true, false_or, or_false, and_self, or_self, if_true, if_false, reduceIte, not_true_eq_false, not_false_eq_true, Int.reduceEq, Int.reduceNe, Int.reduceLT, Int.reduceLE, Int.reduceAdd, Int.reduceSub, Int.reduceMul, Int.reduceNeg, Nat.reduceAdd, Nat.reduceLeDiff, Nat.reduceEqDiff, ne_eq, List.length_cons, List.length_nil, Nat.reduceSub]
    exact he kk pl (by unfold nearO; rw [e]; try rfl) H' (hF.up (sLX_cx p)) q6 q7
  · simp only [e_BT_nearTold_1, k_BT_nearTold_1, rr, sh, Nat.reduceLT, Nat.reduceMul, Int.reduceToNat, Int.reduceGT, Int.reduceGE, Int.reduceNe, true_and, and_true, true_or, or_true, false_or, or_false, and_self, or_self, if_true, if_false, reduceIte, not_true_eq_false, not_false_eq_true, Int.reduceEq, Int.reduceNe, Int.reduceLT, Int.reduceLE, Int.reduceAdd, Int.reduceSub, Int.reduceMul, Int.reduceNeg, Nat.reduceAdd, Nat.reduceLeDiff, Nat.reduceEqDiff, ne_eq, List.length_cons, List.length_nil, Nat.reduceSub, x1, q4]
    have F2 : Fx (sPX p) H' (hs H' p 12 v) := Fx.rf.hs (sPX_p (by decide))
    exact ho e _ (by unfold nearO; rw [eo]; try rfl) _ ((hF.up (sLX_cx p)).tr (F2.up (sPX_cx p))) (hC'.px hp F2) (near_pl (hL.lx hp hF))
set_option maxRecDepth 20000 in
theorem c_seatTold (hp : p = 5 ∨ p = 25) (hP : Ptr H) (hT : TapeR V) {a : Nat} {j : Int} (hC : CRd V H a j) (hB : TxB P) (hL : PlT P H p) (hr : sTx P < 12)
    (he : ∀ kk pl, seatO V a j P = .error (kk, pl) → ∀ H', Fx (sCX p) H H' → H' 2 6 = kk → H' 2 7 = pl → Q (vi 0) H')
    (ho : ∀ e P', seatO V a j P = .ok (e, P') → ∀ H', Fx (sCX p) H H' → CRd V H' e e → PlT P' H' p → Q (vi 1) H') : CC (d + 5) BT_seatTold [va 2, va p] H Q := by
  have x1 : shc p = 5 := by rcases hp with rfl | rfl <;> rfl
  have hn := hC.2.2.2.2.2
  simp only [en_BT_seatTold, e_BT_seatTold_0, k_BT_seatTold_0, rr, sh, Nat.reduceLT, Nat.reduceMul, Int.reduceToNat, Int.reduceGT, Int.reduceGE, Int.reduceNe, true_and, and_true, true_or, or_true, false_or, or_false, and_self, or_self, if_true, if_false, reduceIte, not_true_eq_false, not_false_eq_true, Int.reduceEq, Int.reduceNe, Int.reduceLT, Int.reduceLE, Int.reduceAdd, Int.reduceSub, Int.reduceMul, Int.reduceNeg, Nat.reduceAdd, Nat.reduceLeDiff, Nat.reduceEqDiff, ne_eq, List.length_cons, List.length_nil, Nat.reduceSub, x1]
  refine x_numC (d := d + 2) hT hC (fun kk pl e H' hF q6 q7 => ?_) (fun e v eo H1 hF1 hC1 q4 q5 => ?_)
  · simp only [rr, sh, Nat.reduceLT, Nat.reduceMul, Int.reduceToNat, Int.reduceGT, Int.reduceGE, Int.reduceNe, true_and, and_true, true_or, or_true, false_or, or_false, and_self, or_self, if_true, if_false, reduceIte, not_true_eq_false, not_false_eq_true, Int.reduceEq, Int.reduceNe, Int.reduceLT, Int.reduceLE, Int.reduceAdd, Int.reduceSub, Int.reduceMul, Int.reduceNeg, Nat.reduceAdd, Nat.reduceLeDiff, Nat.reduceEqDiff, ne_eq, List.length_cons, List.length_nil, Nat.reduceSub]
    exact he kk pl (by unfold seatO; rw [e]; try rfl) H' (hF.up (sLX_cx p)) q6 q7
  · have r1 := numO_ok hn eo
    have hL1 := hL.lx hp hF1
    have hP1 := ptr_lx hP hF1
    by_cases c : sAt P v = -1
    · simp only [e_BT_seatTold_1, k_BT_seatTold_1, e_BT_seatTold_2, k_BT_seatTold_2, rr, sh, Nat.reduceLT, Nat.reduceMul, Int.reduceToNat, Int.reduceGT, Int.reduceGE, Int.reduceNe, true_and, and_true, true_or, or_true, false_or, or_false, and_self, or_self, if_true, if_false, reduceIte, not_true_eq_false, not_false_eq_true, Int.reduceEq, Int.reduceNe, Int.reduceLT, Int.reduceLE, Int.reduceAdd, Int.reduceSub, Int.reduceMul, Int.reduceNeg, Nat.reduceAdd, Nat.reduceLeDiff, Nat.reduceEqDiff, ne_eq, List.length_cons, List.length_nil, Nat.reduceSub, x1, q4, q_seatAtC hp hP1 hB hL1, c]
      refine x_wdCO (d := d) (i := 1) hT hC1 (by decide) rfl (fun kk pl e2 H' hF q6 q7 => ?_) (fun e2 u eo2 H2 hF2 hC2 => ?_)
      · simp only [e_BT_seatTold_3, k_BT_seatTold_3, rr, sh, Nat.reduceLT, Nat.reduceMul, Int.reduceToNat, Int.reduceGT, Int.reduceGE, Int.reduceNe, true_and, and_true, true_or, or_true, false_or, or_false, and_self, or_self, if_true, if_false, reduceIte, not_true_eq_false, not_false_eq_true, Int.reduceEq, Int.reduceNe, Int.reduceLT, Int.reduceLE, Int.reduceAdd, Int.reduceSub, Int.reduceMul, Int.reduceNeg, Nat.reduceAdd, Nat.reduceLeDiff, Nat.reduceEqDiff, ne_eq, List.length_cons, List.length_nil, Nat.reduceSub, x1]
        exact he kk pl (by unfold seatO; rw [eo]; simp only [if_pos c, e2]) H' ((hF1.tr hF).up (sLX_cx p)) q6 q7
      · simp only [rr, sh, Nat.reduceLT, Nat.reduceMul, Int.reduceToNat, Int.reduceGT, Int.reduceGE, Int.reduceNe, true_and, and_true, true_or, or_true, false_or, or_false, and_self, or_self, if_true, if_false, reduceIte, not_true_eq_false, not_false_eq_true, Int.reduceEq, Int.reduceNe, Int.reduceLT, Int.reduceLE, Int.reduceAdd, Int.reduceSub, Int.reduceMul, Int.reduceNeg, Nat.reduceAdd, Nat.reduceLeDiff, Nat.reduceEqDiff, ne_eq, List.length_cons, List.length_nil, Nat.reduceSub]
        refine x_numC (d := d + 2) hT hC2 (fun kk pl e3 H' hF q6 q7 => ?_) (fun e3 w eo3 H3 hF3 hC3 q4' q5' => ?_)
        · simp only [e_BT_seatTold_3, k_BT_seatTold_3, rr, sh, Nat.reduceLT, Nat.reduceMul, Int.reduceToNat, Int.reduceGT, Int.reduceGE, Int.reduceNe, true_and, and_true, true_or, or_true, false_or, or_false, and_self, or_self, if_true, if_false, reduceIte, not_true_eq_false, not_false_eq_true, Int.reduceEq, Int.reduceNe, Int.reduceLT, Int.reduceLE, Int.reduceAdd, Int.reduceSub, Int.reduceMul, Int.reduceNeg, Nat.reduceAdd, Nat.reduceLeDiff, Nat.reduceEqDiff, ne_eq, List.length_cons, List.length_nil, Nat.reduceSub, x1]
          exact he kk pl (by unfold seatO; rw [eo]; simp only [if_pos c, eo2, e3]) H' (((hF1.tr hF2).tr hF).up (sLX_cx p)) q6 q7
        · have r3 := numO_ok hC2.2.2.2.2.2 eo3
          have F3 : Fx sLX H H3 := (hF1.tr hF2).tr hF3
          simp only [e_BT_seatTold_4, k_BT_seatTold_4, rr, sh, Nat.reduceLT, Nat.reduceMul, Int.reduceToNat, Int.reduceGT, Int.reduceGE, Int.reduceNe, true_and, and_true, true_or, or_true, false_or, or_false, and_self, or_self, if_true, if_false, reduceIte, not_true_eq_false, not_false_eq_true, Int.reduceEq, Int.reduceNe, Int.reduceLT, Int.reduceLE, Int.reduceAdd, Int.reduceSub, Int.reduceMul, Int.reduceNeg, Nat.reduceAdd, Nat.reduceLeDiff, Nat.reduceEqDiff, ne_eq, List.length_cons, List.length_nil, Nat.reduceSub, x1, q4']
          refine c_addSeat hp (ptr_lx hP F3) hB (hL.lx hp F3) hr ⟨r1.2.2.1, r1.2.2.2.1⟩ ⟨r3.2.2.1, r3.2.2.2.1⟩ (fun H' hF hL' => ?_)
          exact ho e3 _ (by unfold seatO; rw [eo]; simp only [if_pos c, eo2, eo3]) H' ((F3.up (sLX_cx p)).tr (hF.up (sPX_cx p))) (hC3.px hp hF) hL'
    · simp only [e_BT_seatTold_1, k_BT_seatTold_1, rr, sh, Nat.reduceLT, Nat.reduceMul, Int.reduceToNat, Int.reduceGT, Int.reduceGE, Int.reduceNe, true_and, and_true, true_or, or_true, false_or, or_false, and_self, or_self, if_true, if_false, reduceIte, not_true_eq_false, not_false_eq_true, Int.reduceEq, Int.reduceNe, Int.reduceLT, Int.reduceLE, Int.reduceAdd, Int.reduceSub, Int.reduceMul, Int.reduceNeg, Nat.reduceAdd, Nat.reduceLeDiff, Nat.reduceEqDiff, ne_eq, List.length_cons, List.length_nil, Nat.reduceSub, x1, q4, q_seatAtC hp hP1 hB hL1, c, q5, q_failC]
      exact he 2 (skE V a) (by unfold seatO; rw [eo]; simp only [if_neg c]) _ (((hF1.hs (c := 2) (j := 6) rfl).hs (c := 2) (j := 7) rfl).up (sLX_cx p)) ((hs2 (by decide)).trans hs_same) hs_same
set_option maxRecDepth 20000 in
theorem c_wantTold (hp : p = 5 ∨ p = 25) (hP : Ptr H) (hT : TapeR V) {a : Nat} {j : Int} (hC : CRd V H a j) (hL : PlT P H p)
    (he : ∀ kk pl, wantO V a j P = .error (kk, pl) → ∀ H', Fx (sCX p) H H' → H' 2 6 = kk → H' 2 7 = pl → Q (vi 0) H')
    (ho : ∀ e P', wantO V a j P = .ok (e, P') → ∀ H', Fx (sCX p) H H' → CRd V H' e e → PlT P' H' p → Q (vi 1) H') : CC (d + 5) BT_wantTold [va 2, va p] H Q := by
  have x1 : shc p = 5 := by rcases hp with rfl | rfl <;> rfl
  have hn := hC.2.2.2.2.2
  simp only [en_BT_wantTold, e_BT_wantTold_0, k_BT_wantTold_0, rr, sh, Nat.reduceLT, Nat.reduceMul, Int.reduceToNat, Int.reduceGT, Int.reduceGE, Int.reduceNe, true_and, and_true, true_or, or_true, false_or, or_false, and_self, or_self, if_true, if_false, reduceIte, not_true_eq_false, not_false_eq_true, Int.reduceEq, Int.reduceNe, Int.reduceLT, Int.reduceLE, Int.reduceAdd, Int.reduceSub, Int.reduceMul, Int.reduceNeg, Nat.reduceAdd, Nat.reduceLeDiff, Nat.reduceEqDiff, ne_eq, List.length_cons, List.length_nil, Nat.reduceSub, x1]
  refine x_numC (d := d + 2) hT hC (fun kk pl e H' hF q6 q7 => ?_) (fun e v eo H1 hF1 hC1 q4 q5 => ?_)
  · simp only [rr, sh, Nat.reduceLT, Nat.reduceMul, Int.reduceToNat, Int.reduceGT, Int.reduceGE, Int.reduceNe, true_and, and_true, true_or, or_true, false_or, or_false, and_self, or_self, if_true, if_false, reduceIte, not_true_eq_false, not_false_eq_true, Int.reduceEq, Int.reduceNe, Int.reduceLT, Int.reduceLE, Int.reduceAdd, Int.reduceSub, Int.reduceMul, Int.reduceNeg, Nat.reduceAdd, Nat.reduceLeDiff, Nat.reduceEqDiff, ne_eq, List.length_cons, List.length_nil, Nat.reduceSub]
    exact he kk pl (by unfold wantO; rw [e]; try rfl) H' (hF.up (sLX_cx p)) q6 q7
  · have r1 := numO_ok hn eo
    simp only [e_BT_wantTold_1, k_BT_wantTold_1, rr, sh, Nat.reduceLT, Nat.reduceMul, Int.reduceToNat, Int.reduceGT, Int.reduceGE, Int.reduceNe, true_and, and_true, true_or, or_true, false_or, or_false, and_self, or_self, if_true, if_false, reduceIte, not_true_eq_false, not_false_eq_true, Int.reduceEq, Int.reduceNe, Int.reduceLT, Int.reduceLE, Int.reduceAdd, Int.reduceSub, Int.reduceMul, Int.reduceNeg, Nat.reduceAdd, Nat.reduceLeDiff, Nat.reduceEqDiff, ne_eq, List.length_cons, List.length_nil, Nat.reduceSub, x1, q4]
    refine x_wdCO (d := d) (i := 10) hT hC1 (by decide) rfl (fun kk pl e2 H' hF q6 q7 => ?_) (fun e2 u eo2 H2 hF2 hC2 => ?_)
    · simp only [e_BT_wantTold_2, k_BT_wantTold_2, rr, sh, Nat.reduceLT, Nat.reduceMul, Int.reduceToNat, Int.reduceGT, Int.reduceGE, Int.reduceNe, true_and, and_true, true_or, or_true, false_or, or_false, and_self, or_self, if_true, if_false, reduceIte, not_true_eq_false, not_false_eq_true, Int.reduceEq, Int.reduceNe, Int.reduceLT, Int.reduceLE, Int.reduceAdd, Int.reduceSub, Int.reduceMul, Int.reduceNeg, Nat.reduceAdd, Nat.reduceLeDiff, Nat.reduceEqDiff, ne_eq, List.length_cons, List.length_nil, Nat.reduceSub, x1]
      exact he kk pl (by unfold wantO; rw [eo]; simp only [e2]) H' ((hF1.tr hF).up (sLX_cx p)) q6 q7
    · simp only [rr, sh, Nat.reduceLT, Nat.reduceMul, Int.reduceToNat, Int.reduceGT, Int.reduceGE, Int.reduceNe, true_and, and_true, true_or, or_true, false_or, or_false, and_self, or_self, if_true, if_false, reduceIte, not_true_eq_false, not_false_eq_true, Int.reduceEq, Int.reduceNe, Int.reduceLT, Int.reduceLE, Int.reduceAdd, Int.reduceSub, Int.reduceMul, Int.reduceNeg, Nat.reduceAdd, Nat.reduceLeDiff, Nat.reduceEqDiff, ne_eq, List.length_cons, List.length_nil, Nat.reduceSub]
      refine x_sigC (d := d + 1) hT (by decide) hC2 (fun kk pl e3 H' hF q6 q7 => ?_) (fun e3 w eo3 H3 hF3 hC3 q4' => ?_)
      · simp only [e_BT_wantTold_2, k_BT_wantTold_2, rr, sh, Nat.reduceLT, Nat.reduceMul, Int.reduceToNat, Int.reduceGT, Int.reduceGE, Int.reduceNe, true_and, and_true, true_or, or_true, false_or, or_false, and_self, or_self, if_true, if_false, reduceIte, not_true_eq_false, not_false_eq_true, Int.reduceEq, Int.reduceNe, Int.reduceLT, Int.reduceLE, Int.reduceAdd, Int.reduceSub, Int.reduceMul, Int.reduceNeg, Nat.reduceAdd, Nat.reduceLeDiff, Nat.reduceEqDiff, ne_eq, List.length_cons, List.length_nil, Nat.reduceSub, x1]
        exact he kk pl (by unfold wantO; rw [eo]; simp only [eo2, e3]) H' (((hF1.tr hF2).tr hF).up (sLX_cx p)) q6 q7
      · have F3 : Fx sLX H H3 := (hF1.tr hF2).tr hF3
        obtain ⟨q, rfl⟩ := Int.eq_ofNat_of_zero_le r1.2.2.1
        simp only [e_BT_wantTold_3, k_BT_wantTold_3, rr, sh, Nat.reduceLT, Nat.reduceMul, Int.reduceToNat, Int.reduceGT, Int.reduceGE, Int.reduceNe, true_and, and_true, true_or, or_true, false_or, or_false, and_self, or_self, if_true, if_false, reduceIte, not_true_eq_false, not_false_eq_true, Int.reduceEq, Int.reduceNe, Int.reduceLT, Int.reduceLE, Int.reduceAdd, Int.reduceSub, Int.reduceMul, Int.reduceNeg, Nat.reduceAdd, Nat.reduceLeDiff, Nat.reduceEqDiff, ne_eq, List.length_cons, List.length_nil, Nat.reduceSub, x1, q4']
        refine c_wantSwing (d := d + 3) (q := q) hp (ptr_lx hP F3) (hL.lx hp F3) (by have := r1.2.2.2.1; omega) (fun H' hF hL' => ?_)
        exact ho e3 _ (by unfold wantO; rw [eo]; simp only [eo2, eo3]) H' ((F3.up (sLX_cx p)).tr (hF.up (sPX_cx p))) (hC3.px hp hF) hL'
set_option maxRecDepth 20000 in
theorem c_payTold (hp : p = 5 ∨ p = 25) (hP : Ptr H) (hT : TapeR V) {a : Nat} {j : Int} (hC : CRd V H a j) (hL : PlT P H p) (hr : yTx P < 12)
    (he : ∀ kk pl, payO V a j P = .error (kk, pl) → ∀ H', Fx (sCX p) H H' → H' 2 6 = kk → H' 2 7 = pl → Q (vi 0) H')
    (ho : ∀ e P', payO V a j P = .ok (e, P') → ∀ H', Fx (sCX p) H H' → CRd V H' e e → PlT P' H' p → Q (vi 1) H') : CC (d + 5) BT_payTold [va 2, va p] H Q := by
  have x1 : shc p = 5 := by rcases hp with rfl | rfl <;> rfl
  have hn := hC.2.2.2.2.2
  simp only [en_BT_payTold, e_BT_payTold_0, k_BT_payTold_0, rr, sh, Nat.reduceLT, Nat.reduceMul, Int.reduceToNat, Int.reduceGT, Int.reduceGE, Int.reduceNe, true_and, and_true, true_or, or_true, false_or, or_false, and_self, or_self, if_true, if_false, reduceIte, not_true_eq_false, not_false_eq_true, Int.reduceEq, Int.reduceNe, Int.reduceLT, Int.reduceLE, Int.reduceAdd, Int.reduceSub, Int.reduceMul, Int.reduceNeg, Nat.reduceAdd, Nat.reduceLeDiff, Nat.reduceEqDiff, ne_eq, List.length_cons, List.length_nil, Nat.reduceSub, x1]
  refine x_numC (d := d + 2) hT hC (fun kk pl e H' hF q6 q7 => ?_) (fun e v eo H1 hF1 hC1 q4 q5 => ?_)
  · simp only [rr, sh, Nat.reduceLT, Nat.reduceMul, Int.reduceToNat, Int.reduceGT, Int.reduceGE, Int.reduceNe, true_and, and_true, true_or, or_true, false_or, or_false, and_self, or_self, if_true, if_false, reduceIte, not_true_eq_false, not_false_eq_true, Int.reduceEq, Int.reduceNe, Int.reduceLT, Int.reduceLE, Int.reduceAdd, Int.reduceSub, Int.reduceMul, Int.reduceNeg, Nat.reduceAdd, Nat.reduceLeDiff, Nat.reduceEqDiff, ne_eq, List.length_cons, List.length_nil, Nat.reduceSub]
    exact he kk pl (by unfold payO; rw [e]; try rfl) H' (hF.up (sLX_cx p)) q6 q7
  · simp only [e_BT_payTold_1, k_BT_payTold_1, rr, sh, Nat.reduceLT, Nat.reduceMul, Int.reduceToNat, Int.reduceGT, Int.reduceGE, Int.reduceNe, true_and, and_true, true_or, or_true, false_or, or_false, and_self, or_self, if_true, if_false, reduceIte, not_true_eq_false, not_false_eq_true, Int.reduceEq, Int.reduceNe, Int.reduceLT, Int.reduceLE, Int.reduceAdd, Int.reduceSub, Int.reduceMul, Int.reduceNeg, Nat.reduceAdd, Nat.reduceLeDiff, Nat.reduceEqDiff, ne_eq, List.length_cons, List.length_nil, Nat.reduceSub, x1, q4]
    refine x_wdCO (d := d) (i := 16) hT hC1 (by decide) rfl (fun kk pl e2 H' hF q6 q7 => ?_) (fun e2 u eo2 H2 hF2 hC2 => ?_)
    · simp only [e_BT_payTold_2, k_BT_payTold_2, rr, sh, Nat.reduceLT, Nat.reduceMul, Int.reduceToNat, Int.reduceGT, Int.reduceGE, Int.reduceNe, true_and, and_true, true_or, or_true, false_or, or_false, and_self, or_self, if_true, if_false, reduceIte, not_true_eq_false, not_false_eq_true, Int.reduceEq, Int.reduceNe, Int.reduceLT, Int.reduceLE, Int.reduceAdd, Int.reduceSub, Int.reduceMul, Int.reduceNeg, Nat.reduceAdd, Nat.reduceLeDiff, Nat.reduceEqDiff, ne_eq, List.length_cons, List.length_nil, Nat.reduceSub, x1]
      exact he kk pl (by unfold payO; rw [eo]; simp only [e2]) H' ((hF1.tr hF).up (sLX_cx p)) q6 q7
    · simp only [rr, sh, Nat.reduceLT, Nat.reduceMul, Int.reduceToNat, Int.reduceGT, Int.reduceGE, Int.reduceNe, true_and, and_true, true_or, or_true, false_or, or_false, and_self, or_self, if_true, if_false, reduceIte, not_true_eq_false, not_false_eq_true, Int.reduceEq, Int.reduceNe, Int.reduceLT, Int.reduceLE, Int.reduceAdd, Int.reduceSub, Int.reduceMul, Int.reduceNeg, Nat.reduceAdd, Nat.reduceLeDiff, Nat.reduceEqDiff, ne_eq, List.length_cons, List.length_nil, Nat.reduceSub]
      refine x_numC (d := d + 2) hT hC2 (fun kk pl e3 H' hF q6 q7 => ?_) (fun e3 w eo3 H3 hF3 hC3 q4' q5' => ?_)
      · simp only [e_BT_payTold_2, k_BT_payTold_2, rr, sh, Nat.reduceLT, Nat.reduceMul, Int.reduceToNat, Int.reduceGT, Int.reduceGE, Int.reduceNe, true_and, and_true, true_or, or_true, false_or, or_false, and_self, or_self, if_true, if_false, reduceIte, not_true_eq_false, not_false_eq_true, Int.reduceEq, Int.reduceNe, Int.reduceLT, Int.reduceLE, Int.reduceAdd, Int.reduceSub, Int.reduceMul, Int.reduceNeg, Nat.reduceAdd, Nat.reduceLeDiff, Nat.reduceEqDiff, ne_eq, List.length_cons, List.length_nil, Nat.reduceSub, x1]
        exact he kk pl (by unfold payO; rw [eo]; simp only [eo2, e3]) H' (((hF1.tr hF2).tr hF).up (sLX_cx p)) q6 q7
      · have F3 : Fx sLX H H3 := (hF1.tr hF2).tr hF3
        simp only [e_BT_payTold_3, k_BT_payTold_3, rr, sh, Nat.reduceLT, Nat.reduceMul, Int.reduceToNat, Int.reduceGT, Int.reduceGE, Int.reduceNe, true_and, and_true, true_or, or_true, false_or, or_false, and_self, or_self, if_true, if_false, reduceIte, not_true_eq_false, not_false_eq_true, Int.reduceEq, Int.reduceNe, Int.reduceLT, Int.reduceLE, Int.reduceAdd, Int.reduceSub, Int.reduceMul, Int.reduceNeg, Nat.reduceAdd, Nat.reduceLeDiff, Nat.reduceEqDiff, ne_eq, List.length_cons, List.length_nil, Nat.reduceSub, x1, q4']
        refine c_addPayment hp (ptr_lx hP F3) (hL.lx hp F3) hr (fun H' hF hL' => ?_)
        exact ho e3 _ (by unfold payO; rw [eo]; simp only [eo2, eo3]) H' ((F3.up (sLX_cx p)).tr (hF.up (sPX_cx p))) (hC3.px hp hF) hL'
set_option maxRecDepth 20000 in
theorem c_rowerTold (hp : p = 5 ∨ p = 25) (hP : Ptr H) (hT : TapeR V) {a : Nat} {j : Int} (hC : CRd V H a j) (hB : TxB P) (hL : PlT P H p) (hr : rTx P < 12)
    (he : ∀ kk pl, rowO V a j P = .error (kk, pl) → ∀ H', Fx (sCX p) H H' → H' 2 6 = kk → H' 2 7 = pl → Q (vi 0) H')
    (ho : ∀ e P', rowO V a j P = .ok (e, P') → ∀ H', Fx (sCX p) H H' → CRd V H' e e → PlT P' H' p → Q (vi 1) H') : CC (d + 5) BT_rowerTold [va 2, va p] H Q := by
  have x1 : shc p = 5 := by rcases hp with rfl | rfl <;> rfl
  simp only [en_BT_rowerTold, e_BT_rowerTold_0, k_BT_rowerTold_0, rr, sh, Nat.reduceLT, Nat.reduceMul, Int.reduceToNat, Int.reduceGT, Int.reduceGE, Int.reduceNe, true_and, and_true, true_or, or_true, false_or, or_false, and_self, or_self, if_true, if_false, reduceIte, not_true_eq_false, not_false_eq_true, Int.reduceEq, Int.reduceNe, Int.reduceLT, Int.reduceLE, Int.reduceAdd, Int.reduceSub, Int.reduceMul, Int.reduceNeg, Nat.reduceAdd, Nat.reduceLeDiff, Nat.reduceEqDiff, ne_eq, List.length_cons, List.length_nil, Nat.reduceSub, x1]
  refine c_nameTold (d := d + 1) hp hP hT hC hB hL hr (fun kk pl e H' hF q6 q7 => ?_) (fun e x eo H1 hF1 hC1 hN hx => ?_)
  · simp only [e_BT_rowerTold_1, k_BT_rowerTold_1, rr, sh, Nat.reduceLT, Nat.reduceMul, Int.reduceToNat, Int.reduceGT, Int.reduceGE, Int.reduceNe, true_and, and_true, true_or, or_true, false_or, or_false, and_self, or_self, if_true, if_false, reduceIte, not_true_eq_false, not_false_eq_true, Int.reduceEq, Int.reduceNe, Int.reduceLT, Int.reduceLE, Int.reduceAdd, Int.reduceSub, Int.reduceMul, Int.reduceNeg, Nat.reduceAdd, Nat.reduceLeDiff, Nat.reduceEqDiff, ne_eq, List.length_cons, List.length_nil, Nat.reduceSub, x1]
    exact he kk pl (by unfold rowO; rw [e]; try rfl) H' hF q6 q7
  · simp only [rr, sh, Nat.reduceLT, Nat.reduceMul, Int.reduceToNat, Int.reduceGT, Int.reduceGE, Int.reduceNe, true_and, and_true, true_or, or_true, false_or, or_false, and_self, or_self, if_true, if_false, reduceIte, not_true_eq_false, not_false_eq_true, Int.reduceEq, Int.reduceNe, Int.reduceLT, Int.reduceLE, Int.reduceAdd, Int.reduceSub, Int.reduceMul, Int.reduceNeg, Nat.reduceAdd, Nat.reduceLeDiff, Nat.reduceEqDiff, ne_eq, List.length_cons, List.length_nil, Nat.reduceSub]
    refine x_wdCO (d := d) (i := 3) hT hC1 (by decide) rfl (fun kk pl e2 H' hF q6 q7 => ?_) (fun e2 u eo2 H2 hF2 hC2 => ?_)
    · simp only [e_BT_rowerTold_1, k_BT_rowerTold_1, rr, sh, Nat.reduceLT, Nat.reduceMul, Int.reduceToNat, Int.reduceGT, Int.reduceGE, Int.reduceNe, true_and, and_true, true_or, or_true, false_or, or_false, and_self, or_self, if_true, if_false, reduceIte, not_true_eq_false, not_false_eq_true, Int.reduceEq, Int.reduceNe, Int.reduceLT, Int.reduceLE, Int.reduceAdd, Int.reduceSub, Int.reduceMul, Int.reduceNeg, Nat.reduceAdd, Nat.reduceLeDiff, Nat.reduceEqDiff, ne_eq, List.length_cons, List.length_nil, Nat.reduceSub, x1]
      exact he kk pl (by unfold rowO; rw [eo]; simp only [e2]) H' (hF1.tr (hF.up (sLX_cx p))) q6 q7
    · simp only [rr, sh, Nat.reduceLT, Nat.reduceMul, Int.reduceToNat, Int.reduceGT, Int.reduceGE, Int.reduceNe, true_and, and_true, true_or, or_true, false_or, or_false, and_self, or_self, if_true, if_false, reduceIte, not_true_eq_false, not_false_eq_true, Int.reduceEq, Int.reduceNe, Int.reduceLT, Int.reduceLE, Int.reduceAdd, Int.reduceSub, Int.reduceMul, Int.reduceNeg, Nat.reduceAdd, Nat.reduceLeDiff, Nat.reduceEqDiff, ne_eq, List.length_cons, List.length_nil, Nat.reduceSub]
      refine x_numC (d := d + 2) hT hC2 (fun kk pl e3 H' hF q6 q7 => ?_) (fun e3 v eo3 H3 hF3 hC3 q4 q5 => ?_)
      · simp only [e_BT_rowerTold_1, k_BT_rowerTold_1, rr, sh, Nat.reduceLT, Nat.reduceMul, Int.reduceToNat, Int.reduceGT, Int.reduceGE, Int.reduceNe, true_and, and_true, true_or, or_true, false_or, or_false, and_self, or_self, if_true, if_false, reduceIte, not_true_eq_false, not_false_eq_true, Int.reduceEq, Int.reduceNe, Int.reduceLT, Int.reduceLE, Int.reduceAdd, Int.reduceSub, Int.reduceMul, Int.reduceNeg, Nat.reduceAdd, Nat.reduceLeDiff, Nat.reduceEqDiff, ne_eq, List.length_cons, List.length_nil, Nat.reduceSub, x1]
        exact he kk pl (by unfold rowO; rw [eo]; simp only [eo2, e3]) H' (hF1.tr ((hF2.tr hF).up (sLX_cx p))) q6 q7
      · simp only [e_BT_rowerTold_2, k_BT_rowerTold_2, rr, sh, Nat.reduceLT, Nat.reduceMul, Int.reduceToNat, Int.reduceGT, Int.reduceGE, Int.reduceNe, true_and, and_true, true_or, or_true, false_or, or_false, and_self, or_self, if_true, if_false, reduceIte, not_true_eq_false, not_false_eq_true, Int.reduceEq, Int.reduceNe, Int.reduceLT, Int.reduceLE, Int.reduceAdd, Int.reduceSub, Int.reduceMul, Int.reduceNeg, Nat.reduceAdd, Nat.reduceLeDiff, Nat.reduceEqDiff, ne_eq, List.length_cons, List.length_nil, Nat.reduceSub, x1, q4]
        refine x_wdCO (d := d) (i := 4) hT hC3 (by decide) rfl (fun kk pl e4 H' hF q6 q7 => ?_) (fun e4 u4 eo4 H4 hF4 hC4 => ?_)
        · simp only [e_BT_rowerTold_3, k_BT_rowerTold_3, rr, sh, Nat.reduceLT, Nat.reduceMul, Int.reduceToNat, Int.reduceGT, Int.reduceGE, Int.reduceNe, true_and, and_true, true_or, or_true, false_or, or_false, and_self, or_self, if_true, if_false, reduceIte, not_true_eq_false, not_false_eq_true, Int.reduceEq, Int.reduceNe, Int.reduceLT, Int.reduceLE, Int.reduceAdd, Int.reduceSub, Int.reduceMul, Int.reduceNeg, Nat.reduceAdd, Nat.reduceLeDiff, Nat.reduceEqDiff, ne_eq, List.length_cons, List.length_nil, Nat.reduceSub, x1]
          exact he kk pl (by unfold rowO; rw [eo]; simp only [eo2, eo3, e4]) H' (hF1.tr (((hF2.tr hF3).tr hF).up (sLX_cx p))) q6 q7
        · simp only [rr, sh, Nat.reduceLT, Nat.reduceMul, Int.reduceToNat, Int.reduceGT, Int.reduceGE, Int.reduceNe, true_and, and_true, true_or, or_true, false_or, or_false, and_self, or_self, if_true, if_false, reduceIte, not_true_eq_false, not_false_eq_true, Int.reduceEq, Int.reduceNe, Int.reduceLT, Int.reduceLE, Int.reduceAdd, Int.reduceSub, Int.reduceMul, Int.reduceNeg, Nat.reduceAdd, Nat.reduceLeDiff, Nat.reduceEqDiff, ne_eq, List.length_cons, List.length_nil, Nat.reduceSub]
          refine x_numC (d := d + 2) hT hC4 (fun kk pl e5 H' hF q6 q7 => ?_) (fun e5 w eo5 H5 hF5 hC5 q4' q5' => ?_)
          · simp only [e_BT_rowerTold_3, k_BT_rowerTold_3, rr, sh, Nat.reduceLT, Nat.reduceMul, Int.reduceToNat, Int.reduceGT, Int.reduceGE, Int.reduceNe, true_and, and_true, true_or, or_true, false_or, or_false, and_self, or_self, if_true, if_false, reduceIte, not_true_eq_false, not_false_eq_true, Int.reduceEq, Int.reduceNe, Int.reduceLT, Int.reduceLE, Int.reduceAdd, Int.reduceSub, Int.reduceMul, Int.reduceNeg, Nat.reduceAdd, Nat.reduceLeDiff, Nat.reduceEqDiff, ne_eq, List.length_cons, List.length_nil, Nat.reduceSub, x1]
            exact he kk pl (by unfold rowO; rw [eo]; simp only [eo2, eo3, eo4, e5]) H' (hF1.tr ((((hF2.tr hF3).tr hF4).tr hF).up (sLX_cx p))) q6 q7
          · have F5 : Fx sLX H1 H5 := ((hF2.tr hF3).tr hF4).tr hF5
            have G5 : Fx (sCX p) H H5 := hF1.tr (F5.up (sLX_cx p))
            simp only [e_BT_rowerTold_4, k_BT_rowerTold_4, rr, sh, Nat.reduceLT, Nat.reduceMul, Int.reduceToNat, Int.reduceGT, Int.reduceGE, Int.reduceNe, true_and, and_true, true_or, or_true, false_or, or_false, and_self, or_self, if_true, if_false, reduceIte, not_true_eq_false, not_false_eq_true, Int.reduceEq, Int.reduceNe, Int.reduceLT, Int.reduceLE, Int.reduceAdd, Int.reduceSub, Int.reduceMul, Int.reduceNeg, Nat.reduceAdd, Nat.reduceLeDiff, Nat.reduceEqDiff, ne_eq, List.length_cons, List.length_nil, Nat.reduceSub, x1, q4']
            refine c_addRower hp (ptr_cx hp hP G5) (hN.lx hp F5) hx hr (fun H' hF hL' => ?_)
            exact ho e5 _ (by unfold rowO; rw [eo]; simp only [eo2, eo3, eo4, eo5]) H' (G5.tr (hF.up (sPX_cx p))) (hC5.px hp hF) hL'
set_option maxRecDepth 20000 in
theorem c_fixTold (hp : p = 5 ∨ p = 25) (hP : Ptr H) (hT : TapeR V) {a : Nat} {j : Int} (hC : CRd V H a j) (hB : TxB P) (hL : PlT P H p)
    (he : ∀ kk pl, fixO V a j P = .error (kk, pl) → ∀ H', Fx (sCX p) H H' → H' 2 6 = kk → H' 2 7 = pl → Q (vi 0) H')
    (ho : ∀ e P', fixO V a j P = .ok (e, P') → ∀ H', Fx (sCX p) H H' → CRd V H' e e → PlT P' H' p → Q (vi 1) H') : CC (d + 5) BT_fixTold [va 2, va p] H Q := by
  have x1 : shc p = 5 := by rcases hp with rfl | rfl <;> rfl
  have hn := hC.2.2.2.2.2
  simp only [en_BT_fixTold, e_BT_fixTold_0, k_BT_fixTold_0, rr, sh, Nat.reduceLT, Nat.reduceMul, Int.reduceToNat, Int.reduceGT, Int.reduceGE, Int.reduceNe, true_and, and_true, true_or, or_true, false_or, or_false, and_self, or_self, if_true, if_false, reduceIte, not_true_eq_false, not_false_eq_true, Int.reduceEq, Int.reduceNe, Int.reduceLT, Int.reduceLE, Int.reduceAdd, Int.reduceSub, Int.reduceMul, Int.reduceNeg, Nat.reduceAdd, Nat.reduceLeDiff, Nat.reduceEqDiff, ne_eq, List.length_cons, List.length_nil, Nat.reduceSub, x1]
  refine x_numC (d := d + 2) hT hC (fun kk pl e H' hF q6 q7 => ?_) (fun e v eo H1 hF1 hC1 q4 q5 => ?_)
  · simp only [rr, sh, Nat.reduceLT, Nat.reduceMul, Int.reduceToNat, Int.reduceGT, Int.reduceGE, Int.reduceNe, true_and, and_true, true_or, or_true, false_or, or_false, and_self, or_self, if_true, if_false, reduceIte, not_true_eq_false, not_false_eq_true, Int.reduceEq, Int.reduceNe, Int.reduceLT, Int.reduceLE, Int.reduceAdd, Int.reduceSub, Int.reduceMul, Int.reduceNeg, Nat.reduceAdd, Nat.reduceLeDiff, Nat.reduceEqDiff, ne_eq, List.length_cons, List.length_nil, Nat.reduceSub]
    exact he kk pl (by unfold fixO; rw [e]; try rfl) H' (hF.up (sLX_cx p)) q6 q7
  · have hL1 := hL.lx hp hF1
    have hP1 := ptr_lx hP hF1
    by_cases c : sAt P v = -1
    · simp only [e_BT_fixTold_1, k_BT_fixTold_1, rr, sh, Nat.reduceLT, Nat.reduceMul, Int.reduceToNat, Int.reduceGT, Int.reduceGE, Int.reduceNe, true_and, and_true, true_or, or_true, false_or, or_false, and_self, or_self, if_true, if_false, reduceIte, not_true_eq_false, not_false_eq_true, Int.reduceEq, Int.reduceNe, Int.reduceLT, Int.reduceLE, Int.reduceAdd, Int.reduceSub, Int.reduceMul, Int.reduceNeg, Nat.reduceAdd, Nat.reduceLeDiff, Nat.reduceEqDiff, ne_eq, List.length_cons, List.length_nil, Nat.reduceSub, x1, q4, q_seatAtC hp hP1 hB hL1, c, q5, q_failC]
      exact he 2 (skE V a) (by unfold fixO; rw [eo]; simp only [if_pos c]) _ (((hF1.hs (c := 2) (j := 6) rfl).hs (c := 2) (j := 7) rfl).up (sLX_cx p)) ((hs2 (by decide)).trans hs_same) hs_same
    · obtain ⟨s, hs'⟩ : ∃ s : Nat, sAt P v = s := by
        rcases sAt_rng P v with z | z
        · exact absurd z c
        · exact Int.eq_ofNat_of_zero_le z.1
      have sl : s < sTx P := by
        rcases sAt_rng P v with z | z
        · exact absurd z c
        · rw [hs'] at z; exact Int.ofNat_lt.mp z.2
      have s9 : ¬ (s : Int) = -1 := fun z => absurd (z ▸ Int.natCast_nonneg s) (by decide)
      have st : (sAt P v).toNat = s := by rw [hs']; rfl
      have en : e ≤ tpN V := hC1.2.2.2.2.2
      have hC2 := hC1.mv (skE_rng en).2
      have F2 : Fx sLX H (hs H1 2 2 (skE V e)) := hF1.hs (c := 2) (j := 2) rfl
      have qw : ∀ {Q : AV → Hp → Prop}, CC (d + 4) TP_wordHere [va 2, va 901] H1 Q = Q (vi (wrI V e e OW)) (hs H1 2 2 (skE V e)) := fun {Q} => q_wordHere (d := d + 1) hT hC1.1 hC1.2.1 en hC1.2.2.1 stw_OW
      have key := wr_at (V := V) (a := e) (j := e) nod_OW (i := 8) (by decide)
      have key : wrI V e e OW = 8 ↔ hereB V e e (OW.getD 8 []) = true := key
      by_cases c2 : hereB V e e (OW.getD 8 []) = true
      · have w8 := key.mpr c2
        simp only [e_BT_fixTold_1, k_BT_fixTold_1, e_BT_fixTold_2, k_BT_fixTold_2, e_BT_fixTold_3, k_BT_fixTold_3, e_BT_fixTold_4, k_BT_fixTold_4, e_BT_fixTold_5, k_BT_fixTold_5, e_BT_fixTold_6, k_BT_fixTold_6, rr, sh, Nat.reduceLT, Nat.reduceMul, Int.reduceToNat, Int.reduceGT, Int.reduceGE, Int.reduceNe, true_and, and_true, true_or, or_true, false_or, or_false, and_self, or_self, if_true, if_false, reduceIte, not_true_eq_false, not_false_eq_true, Int.reduceEq, Int.reduceNe, Int.reduceLT, Int.reduceLE, Int.reduceAdd, Int.reduceSub, Int.reduceMul, Int.reduceNeg, Nat.reduceAdd, Nat.reduceLeDiff, Nat.reduceEqDiff, ne_eq, List.length_cons, List.length_nil, Nat.reduceSub, x1, q4, q_seatAtC hp hP1 hB hL1, hs', s9, qw, w8]
        refine x_wdCO (d := d) (i := 8) hT hC2 (by decide) rfl (fun kk pl e2 H' hF q6 q7 => ?_) (fun e2 u eo2 H2 hF2 hC3 => ?_)
        · rw [wdO_sk en] at e2
          unfold wdO at e2
          rw [if_pos c2] at e2
          cases e2
        · rw [wdO_sk en] at eo2
          have ee := (wdO_ok en (lnO (i := 8) (by decide)).2 eo2).2.2
          subst ee
          have F3 : Fx sLX H H2 := F2.tr hF2
          simp only [e_BT_fixTold_7, k_BT_fixTold_7, rr, sh, Nat.reduceLT, Nat.reduceMul, Int.reduceToNat, Int.reduceGT, Int.reduceGE, Int.reduceNe, true_and, and_true, true_or, or_true, false_or, or_false, and_self, or_self, if_true, if_false, reduceIte, not_true_eq_false, not_false_eq_true, Int.reduceEq, Int.reduceNe, Int.reduceLT, Int.reduceLE, Int.reduceAdd, Int.reduceSub, Int.reduceMul, Int.reduceNeg, Nat.reduceAdd, Nat.reduceLeDiff, Nat.reduceEqDiff, ne_eq, List.length_cons, List.length_nil, Nat.reduceSub, x1]
          refine c_fixSeat hp hB (hL.lx hp F3) sl (Or.inr rfl) (fun H' hF hL' => ?_)
          rw [if_pos rfl] at hL'
          exact ho (enE V e) _ (by unfold fixO; rw [eo]; simp only [if_neg c, if_pos c2, st]) H' ((F3.up (sLX_cx p)).tr (hF.up (sPX_cx p))) (hC3.px hp hF) hL'
      · have w8 : ¬ wrI V e e OW = 8 := fun z => c2 (key.mp z)
        simp only [e_BT_fixTold_1, k_BT_fixTold_1, e_BT_fixTold_2, k_BT_fixTold_2, e_BT_fixTold_3, k_BT_fixTold_3, e_BT_fixTold_4, k_BT_fixTold_4, e_BT_fixTold_5, k_BT_fixTold_5, e_BT_fixTold_6, k_BT_fixTold_6, rr, sh, Nat.reduceLT, Nat.reduceMul, Int.reduceToNat, Int.reduceGT, Int.reduceGE, Int.reduceNe, true_and, and_true, true_or, or_true, false_or, or_false, and_self, or_self, if_true, if_false, reduceIte, not_true_eq_false, not_false_eq_true, Int.reduceEq, Int.reduceNe, Int.reduceLT, Int.reduceLE, Int.reduceAdd, Int.reduceSub, Int.reduceMul, Int.reduceNeg, Nat.reduceAdd, Nat.reduceLeDiff, Nat.reduceEqDiff, ne_eq, List.length_cons, List.length_nil, Nat.reduceSub, x1, q4, q_seatAtC hp hP1 hB hL1, hs', s9, qw, w8]
        refine x_wdCO (d := d) (i := 7) hT hC2 (by decide) rfl (fun kk pl e2 H' hF q6 q7 => ?_) (fun e2 u eo2 H2 hF2 hC3 => ?_)
        · rw [wdO_sk en] at e2
          simp only [rr, sh, Nat.reduceLT, Nat.reduceMul, Int.reduceToNat, Int.reduceGT, Int.reduceGE, Int.reduceNe, true_and, and_true, true_or, or_true, false_or, or_false, and_self, or_self, if_true, if_false, reduceIte, not_true_eq_false, not_false_eq_true, Int.reduceEq, Int.reduceNe, Int.reduceLT, Int.reduceLE, Int.reduceAdd, Int.reduceSub, Int.reduceMul, Int.reduceNeg, Nat.reduceAdd, Nat.reduceLeDiff, Nat.reduceEqDiff, ne_eq, List.length_cons, List.length_nil, Nat.reduceSub]
          exact he kk pl (by unfold fixO; rw [eo]; simp only [if_neg c, if_neg c2, e2]) H' ((F2.tr hF).up (sLX_cx p)) q6 q7
        · rw [wdO_sk en] at eo2
          have F3 : Fx sLX H H2 := F2.tr hF2
          simp only [e_BT_fixTold_7, k_BT_fixTold_7, rr, sh, Nat.reduceLT, Nat.reduceMul, Int.reduceToNat, Int.reduceGT, Int.reduceGE, Int.reduceNe, true_and, and_true, true_or, or_true, false_or, or_false, and_self, or_self, if_true, if_false, reduceIte, not_true_eq_false, not_false_eq_true, Int.reduceEq, Int.reduceNe, Int.reduceLT, Int.reduceLE, Int.reduceAdd, Int.reduceSub, Int.reduceMul, Int.reduceNeg, Nat.reduceAdd, Nat.reduceLeDiff, Nat.reduceEqDiff, ne_eq, List.length_cons, List.length_nil, Nat.reduceSub, x1]
          refine c_fixSeat hp hB (hL.lx hp F3) sl (Or.inl rfl) (fun H' hF hL' => ?_)
          rw [if_neg (by decide)] at hL'
          exact ho e2 _ (by unfold fixO; rw [eo]; simp only [if_neg c, if_neg c2, eo2, st]) H' ((F3.up (sLX_cx p)).tr (hF.up (sPX_cx p))) (hC3.px hp hF) hL'
end PI
