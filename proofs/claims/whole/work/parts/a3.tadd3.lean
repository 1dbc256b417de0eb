/-! THE BOAT'S TEXT, the class: a rower, a want, a run, a payment added -/
/-- letters of the rower told now stand in the class's plan -/
def PlN (L : Nat → Int) (P H : Hp) (p : Int) : Prop := ∃ H0, PlT P H0 p ∧ H p = H0 p ∧ (∀ a, p + 1 ≤ a → a ≤ p + 12 → a ≠ p + 4 → H a = H0 a) ∧ ∀ i : Nat, i < 72 → H (p + 4) i = if 6 * rTx P ≤ i ∧ i < 6 * rTx P + 6 then L (i - 6 * rTx P) else H0 (p + 4) i
def csS (x : Int) : Int := if x = 2 then 1 else if x = 1 then -1 else 0
/-- sides of the run told now stand in the class's plan -/
def PlS (L : Nat → Int) (P H : Hp) (p : Int) : Prop := ∃ H0, PlT P H0 p ∧ H p = H0 p ∧ (∀ a, p + 1 ≤ a → a ≤ p + 12 → a ≠ p + 8 → H a = H0 a) ∧ ∀ i : Nat, i < 96 → H (p + 8) i = if 12 * uTx P ≤ i ∧ i < 12 * uTx P + 12 then csS (L (i - 12 * uTx P)) else H0 (p + 8) i
theorem nmV_cg {L L' : Nat → Int} : ∀ n : Nat, (∀ q : Nat, q < n → L q = L' q) → nmV L n = nmV L' n
  | 0, _ => rfl
  | n + 1, h => by
    show 27 * nmV L n + L n = 27 * nmV L' n + L' n
    rw [nmV_cg n (fun q hq => h q (by omega)), h n (by omega)]
theorem NmT.cg {x : Int} {L L' : Nat → Int} (h : NmT x L) (e : ∀ q : Nat, q < 6 → L q = L' q) : NmT x L' := by
  obtain ⟨n, h1, h2, h3, h4, h5⟩ := h
  refine ⟨n, h1, h2, ?_, fun q hq => ?_, fun q hq hq2 => ?_⟩
  · rw [h3]; exact nmV_cg n (fun q hq => e q (by omega))
  · rw [← e q (by omega)]; exact h4 q hq
  · rw [← e q hq2]; exact h5 q hq hq2
section PE
variable {d : Nat} {P H : Hp} {p : Int} {Q : AV → Hp → Prop}
theorem PlN.lx {L : Nat → Int} {H' : Hp} (h : PlN L P H p) (hp : p = 5 ∨ p = 25) (hF : Fx sLX H H') : PlN L P H' p := by
  have e : ∀ a, p ≤ a → H' a = H a := fun a h1 => hF.cell a (fun b => by unfold sLX; rw [if_neg (by omega)])
  obtain ⟨H0, h1, h2, h3, h4⟩ := h
  exact ⟨H0, h1, (e p (by omega)).trans h2, fun a q1 q2 q3 => (e a (by omega)).trans (h3 a q1 q2 q3), fun i hi => by rw [e (p + 4) (by omega)]; exact h4 i hi⟩
theorem PlS.lx {L : Nat → Int} {H' : Hp} (h : PlS L P H p) (hp : p = 5 ∨ p = 25) (hF : Fx sLX H H') : PlS L P H' p := by
  have e : ∀ a, p ≤ a → H' a = H a := fun a h1 => hF.cell a (fun b => by unfold sLX; rw [if_neg (by omega)])
  obtain ⟨H0, h1, h2, h3, h4⟩ := h
  exact ⟨H0, h1, (e p (by omega)).trans h2, fun a q1 q2 q3 => (e a (by omega)).trans (h3 a q1 q2 q3), fun i hi => by rw [e (p + 8) (by omega)]; exact h4 i hi⟩
theorem rowP_t {x v w : Int} : sTx (rowP P x v w) = sTx P ∧ rTx (rowP P x v w) = rTx P + 1 ∧ uTx (rowP P x v w) = uTx P ∧ yTx (rowP P x v w) = yTx P := by
  refine ⟨?_, ?_, ?_, ?_⟩
  · simp only [sTx, rTx, uTx, yTx, rowP, hs_app, Int.reduceEq, Int.reduceAdd, and_false, false_and, and_true, true_and, if_false, if_true, reduceIte, eq_self, and_self]
  · show (rowP P x v w 91 1).toNat = _
    unfold rowP; rw [hs_same]; rfl
  all_goals (simp only [sTx, rTx, uTx, yTx, rowP, hs_app, Int.reduceEq, Int.reduceAdd, and_false, false_and, and_true, true_and, if_false, if_true, reduceIte, eq_self, and_self])
theorem rowP_o {x v w a : Int} (h : a ≠ 91 ∧ a ≠ 95 ∧ a ≠ 96 ∧ a ≠ 97) : rowP P x v w a = P a := by
  unfold rowP
  rw [hs_ne h.1, hs_ne h.2.2.2, hs_ne h.2.2.1, hs_ne h.2.1]
theorem rowP_c {x v w : Int} : (∀ k : Nat, rowP P x v w 95 k = if k = rTx P then x else P 95 k) ∧ (∀ k : Nat, rowP P x v w 96 k = if k = rTx P then v else P 96 k) ∧ ∀ k : Nat, rowP P x v w 97 k = if k = rTx P then w else P 97 k := by
  refine ⟨fun k => ?_, fun k => ?_, fun k => ?_⟩ <;> simp only [rowP, hs_app, Int.reduceEq, Int.reduceAdd, and_false, false_and, and_true, true_and, if_false, if_true, reduceIte, eq_self, and_self, at_z]
theorem rowP_B {x v w : Int} (hB : TxB P) (hn : rTx P < 12) (hv : 1 ≤ v ∧ v ≤ 99) (hw : 0 ≤ w ∧ w ≤ 9) : TxB (rowP P x v w) := by
  obtain ⟨t0, t1, t2, t3⟩ := rowP_t (P := P) (x := x) (v := v) (w := w)
  obtain ⟨c5, c6, c7⟩ := rowP_c (P := P) (x := x) (v := v) (w := w)
  have o : ∀ a : Int, a ≠ 91 ∧ a ≠ 95 ∧ a ≠ 96 ∧ a ≠ 97 → rowP P x v w a = P a := fun a h => rowP_o h
  have n1 : rowP P x v w 91 1 = ((rTx P + 1 : Nat) : Int) := hs_same
  have n0 : rowP P x v w 91 0 = P 91 0 := by simp only [rowP, hs_app, Int.reduceEq, Int.reduceAdd, and_false, false_and, and_true, true_and, if_false, if_true, reduceIte, eq_self, and_self]
  have n2 : rowP P x v w 91 2 = P 91 2 := by simp only [rowP, hs_app, Int.reduceEq, Int.reduceAdd, and_false, false_and, and_true, true_and, if_false, if_true, reduceIte, eq_self, and_self]
  have n3 : rowP P x v w 91 3 = P 91 3 := by simp only [rowP, hs_app, Int.reduceEq, Int.reduceAdd, and_false, false_and, and_true, true_and, if_false, if_true, reduceIte, eq_self, and_self]
  obtain ⟨b0, b1, b2, b3, b4, b5, b6, b7, b8, bR⟩ := hB
  unfold TxB
  rw [t0, t1, t2, t3, n0, n1, n2, n3, o 92 (by decide), o 93 (by decide), o 94 (by decide), o 98 (by decide), o 99 (by decide), o 100 (by decide), o 101 (by decide), o 103 (by decide), o 104 (by decide), o 105 (by decide), o 106 (by decide)]
  refine ⟨b0, ⟨rfl, by omega⟩, b2, b3, b4, b5, b6, fun k hk => ?_, fun k hk => ?_, bR⟩
  · rw [c6]; split
    · exact hv
    · exact b7 k (by omega)
  · rw [c7]; split
    · exact hw
    · exact b8 k (by omega)
theorem row_pl {H' : Hp} {x v w : Int} {L : Nat → Int} (hL : PlN L P H p) (hN : NmT x L) (hr : rTx P < 12)
    (e6 : H' p 6 = ((rTx P + 1 : Nat) : Int)) (ep : ∀ b, b ≠ 6 → H' p b = H p b)
    (e5 : ∀ k : Nat, H' (p + 5) k = if k = rTx P then v else H (p + 5) k) (e6' : ∀ k : Nat, H' (p + 6) k = if k = rTx P then w else H (p + 6) k)
    (eo' : ∀ a, p + 1 ≤ a → a ≤ p + 12 → a ≠ p + 5 → a ≠ p + 6 → H' a = H a) : PlT (rowP P x v w) H' p := by
  obtain ⟨t0, t1, t2, t3⟩ := rowP_t (P := P) (x := x) (v := v) (w := w)
  obtain ⟨c5, c6, c7⟩ := rowP_c (P := P) (x := x) (v := v) (w := w)
  have o : ∀ a : Int, a ≠ 91 ∧ a ≠ 95 ∧ a ≠ 96 ∧ a ≠ 97 → rowP P x v w a = P a := fun a h => rowP_o h
  obtain ⟨H0, hL0, k0, ko, k4⟩ := hL
  have eo : ∀ a, p + 1 ≤ a → a ≤ p + 12 → a ≠ p + 5 → a ≠ p + 6 → a ≠ p + 4 → H' a = H0 a := fun a h1 h2 h3 h4 h5 => (eo' a h1 h2 h3 h4).trans (ko a h1 h2 h5)
  have e4 : H' (p + 4) = H (p + 4) := eo' (p + 4) (by omega) (by omega) (by omega) (by omega)
  have e55 : H (p + 5) = H0 (p + 5) := ko (p + 5) (by omega) (by omega) (by omega)
  have e66 : H (p + 6) = H0 (p + 6) := ko (p + 6) (by omega) (by omega) (by omega)
  obtain ⟨⟨a0, a1, a2, a3, a4, a5⟩, gS, gF, ⟨r1, r2⟩, gW, gU, gV, gY, ⟨l1, l2⟩⟩ := hL0
  unfold PlT
  rw [t0, t1, t2, t3, e6, ep 0 (by decide), ep 13 (by decide), ep 17 (by decide), ep 10 (by decide), ep 12 (by decide), ep 4 (by decide), ep 5 (by decide), k0, e4, eo (p + 1) (by omega) (by omega) (by omega) (by omega) (by omega), eo (p + 2) (by omega) (by omega) (by omega) (by omega) (by omega), eo (p + 3) (by omega) (by omega) (by omega) (by omega) (by omega), eo (p + 7) (by omega) (by omega) (by omega) (by omega) (by omega), eo (p + 8) (by omega) (by omega) (by omega) (by omega) (by omega), eo (p + 9) (by omega) (by omega) (by omega) (by omega) (by omega), eo (p + 10) (by omega) (by omega) (by omega) (by omega) (by omega), eo (p + 11) (by omega) (by omega) (by omega) (by omega) (by omega), eo (p + 12) (by omega) (by omega) (by omega) (by omega) (by omega), o 92 (by decide), o 93 (by decide), o 94 (by decide), o 98 (by decide), o 99 (by decide), o 100 (by decide), o 101 (by decide), o 102 (by decide), o 103 (by decide), o 104 (by decide), o 105 (by decide), o 106 (by decide)]
  refine ⟨⟨a0, rfl, a2, a3, a4, a5⟩, gS, gF, ⟨fun k hk => ?_, fun k hk => ?_⟩, gW, gU, gV, gY, ⟨fun r hr2 => ?_, fun i h1 h2 => ?_⟩⟩
  · rw [c6, e5, e55]; split
    · rfl
    · exact r1 k (by omega)
  · rw [c7, e6', e66]; split
    · rfl
    · exact r2 k (by omega)
  · rw [c5]; split
    · next c =>
      subst c
      refine hN.cg (fun q hq => ?_)
      rw [k4 _ (by omega), if_pos (by omega), Nat.add_sub_cancel_left]
    · refine (l1 r (by omega)).cg (fun q hq => ?_)
      rw [k4 _ (by omega), if_neg (by omega)]
  · rw [k4 i h2, if_neg (by omega)]
    exact l2 i (by omega) h2
set_option maxRecDepth 20000 in
theorem c_addRower (hp : p = 5 ∨ p = 25) (hP : Ptr H) {x : Int} {L : Nat → Int} (hL : PlN L P H p) (hN : NmT x L) (hn : rTx P < 12) {v w : Int}
    (hQ : ∀ H', Fx (sPX p) H H' → PlT (rowP P x v w) H' p → Q vu H') : CC d PL_addRower [va p, vi v, vi w] H Q := by
  have h0 : H p 6 = rTx P := by obtain ⟨H0, h1, h2, -⟩ := hL; rw [h2]; exact h1.1.2.1
  obtain ⟨x1, -, -, -, -, g5, g6, -⟩ := pp_f hp hP
  have r1 : ∀ (X : Hp) (j v b : Int), hs X (p + 5) j v p b = X p b := fun X j v b => hs_pp (by decide)
  have r2 : ∀ (X : Hp) (j v b : Int), hs X (p + 6) j v p b = X p b := fun X j v b => hs_pp (by decide)
  have c1 : (rTx P : Int) < 12 := by omega
  have j1 : 0 ≤ (rTx P : Int) ∧ (rTx P : Int) < 12 := by omega
  have kw : w32 ((rTx P : Int) + 1) = ((rTx P + 1 : Nat) : Int) := w32_s (by omega)
  simp only [en_PL_addRower, e_PL_addRower_0, k_PL_addRower_0, e_PL_addRower_1, k_PL_addRower_1, rr, sh, Nat.reduceLT, Nat.reduceMul, Int.reduceToNat, Int.reduceGT, Int.reduceGE, Int.reduceNe, true_and, and_true, true_or, or_true, false_or, or_false, and_self, or_self, if_true, if_false, reduceIte, not_true_eq_false, not_false_eq_true, Int.reduceEq, Int.reduceNe, Int.reduceLT, Int.reduceLE, Int.reduceAdd, Int.reduceSub, Int.reduceMul, Int.reduceNeg, Nat.reduceAdd, Nat.reduceLeDiff, Nat.reduceEqDiff, ne_eq, List.length_cons, List.length_nil, Nat.reduceSub, r1, r2, x1, g5, g6, h0, c1, j1, kw]
  clear kw r1 r2 g5 g6
  refine hQ _ (((Fx.rf.hs (sPX_a (by decide))).hs (sPX_a (by decide))).hs (sPX_p (by decide))) (row_pl hL hN hn hs_same (fun b hb => ?_) (fun k => ?_) (fun k => ?_) (fun a h1 h2 h3 h4 => ?_))
  · rw [hs2 (fun z => hb z.2), hs_pp (by decide), hs_pp (by decide)]
  · rw [hs_ne' (by omega), hs_ne' (by omega), hs_at, at_z]
  · rw [hs_ne' (by omega), hs_at, at_z, hs_ne' (by omega)]
  · rw [hs_ne (by omega), hs_ne (by omega), hs_ne (by omega)]
/-! wants -/
theorem wantP_o {q v a : Int} (h : a ≠ 100 ∧ a ≠ 101) : wantP P q v a = P a := by
  unfold wantP
  rw [hs_ne h.2, hs_ne h.1]
theorem wantP_c {q : Nat} {v : Int} : (∀ k : Nat, wantP P q v 100 k = if k = q then 1 else P 100 k) ∧ ∀ k : Nat, wantP P q v 101 k = if k = q then v else P 101 k := by
  refine ⟨fun k => ?_, fun k => ?_⟩ <;> simp only [wantP, hs_app, Int.reduceEq, Int.reduceAdd, and_false, false_and, and_true, true_and, if_false, if_true, reduceIte, eq_self, and_self, at_z]
theorem wantP_B {q : Nat} {v : Int} (hB : TxB P) (hv : -9999 ≤ v ∧ v ≤ 9999) : TxB (wantP P q v) := by
  obtain ⟨c0, c1⟩ := wantP_c (P := P) (q := q) (v := v)
  have o : ∀ a : Int, a ≠ 100 ∧ a ≠ 101 → wantP P q v a = P a := fun a h => wantP_o h
  obtain ⟨b0, b1, b2, b3, b4, b5, b6, b7, b8, b9, b10, b11, b12, bR⟩ := hB
  unfold TxB sTx rTx uTx yTx
  rw [o 91 (by decide), o 92 (by decide), o 93 (by decide), o 94 (by decide), o 96 (by decide), o 97 (by decide), o 98 (by decide), o 99 (by decide), o 103 (by decide), o 104 (by decide), o 105 (by decide), o 106 (by decide)]
  refine ⟨b0, b1, b2, b3, b4, b5, b6, b7, b8, b9, b10, fun k hk => ?_, fun k hk h1 => ?_, bR⟩
  · rw [c0]; split
    · exact Or.inr rfl
    · exact b11 k hk
  · rw [c1]
    by_cases c : k = q
    · rw [if_pos c]; exact hv
    · rw [if_neg c]
      rw [c0, if_neg c] at h1
      exact b12 k hk h1
theorem want_pl {H' : Hp} {q : Nat} {v : Int} (hL : PlT P H p)
    (ep : ∀ b, H' p b = H p b) (e7 : ∀ k : Nat, H' (p + 7) k = if k = q then v else H (p + 7) k)
    (eo : ∀ a, p + 1 ≤ a → a ≤ p + 12 → a ≠ p + 7 → H' a = H a) : PlT (wantP P q v) H' p := by
  obtain ⟨c0, c1⟩ := wantP_c (P := P) (q := q) (v := v)
  have o : ∀ a : Int, a ≠ 100 ∧ a ≠ 101 → wantP P q v a = P a := fun a h => wantP_o h
  obtain ⟨gN, gS, gF, gR, gW, gU, gV, gY, gL⟩ := hL
  have ep' : H' p = H p := funext ep
  unfold PlT sTx rTx uTx yTx
  rw [ep', eo (p + 1) (by omega) (by omega) (by omega), eo (p + 2) (by omega) (by omega) (by omega), eo (p + 3) (by omega) (by omega) (by omega), eo (p + 4) (by omega) (by omega) (by omega), eo (p + 5) (by omega) (by omega) (by omega), eo (p + 6) (by omega) (by omega) (by omega), eo (p + 8) (by omega) (by omega) (by omega), eo (p + 9) (by omega) (by omega) (by omega), eo (p + 10) (by omega) (by omega) (by omega), eo (p + 11) (by omega) (by omega) (by omega), eo (p + 12) (by omega) (by omega) (by omega), o 91 (by decide), o 92 (by decide), o 93 (by decide), o 94 (by decide), o 95 (by decide), o 96 (by decide), o 97 (by decide), o 98 (by decide), o 99 (by decide), o 102 (by decide), o 103 (by decide), o 104 (by decide), o 105 (by decide), o 106 (by decide)]
  refine ⟨gN, gS, gF, gR, fun k hk => ?_, gU, gV, gY, gL⟩
  rw [c0, c1, e7]
  by_cases c : k = q
  · rw [if_pos c, if_pos c, if_pos c, if_pos rfl]
  · rw [if_neg c, if_neg c, if_neg c]; exact gW k hk
set_option maxRecDepth 20000 in
theorem c_wantSwing (hp : p = 5 ∨ p = 25) (hP : Ptr H) (hL : PlT P H p) {q : Nat} (hq : q < 4) {v : Int}
    (hQ : ∀ H', Fx (sPX p) H H' → PlT (wantP P q v) H' p → Q vu H') : CC (d + 1) PL_wantSwing [va p, vi q, vi v] H Q := by
  obtain ⟨x1, -, -, -, -, -, -, g7, -⟩ := pp_f hp hP
  have j1 : 0 ≤ (q : Int) ∧ (q : Int) < 4 := by omega
  simp only [en_PL_wantSwing, e_PL_wantSwing_0, k_PL_wantSwing_0, e_PL_wantSwing_1, k_PL_wantSwing_1, rr, sh, Nat.reduceLT, Nat.reduceMul, Int.reduceToNat, Int.reduceGT, Int.reduceGE, Int.reduceNe, true_and, and_true, true_or, or_true, false_or, or_false, and_self, or_self, if_true, if_false, reduceIte, not_true_eq_false, not_false_eq_true, Int.reduceEq, Int.reduceNe, Int.reduceLT, Int.reduceLE, Int.reduceAdd, Int.reduceSub, Int.reduceMul, Int.reduceNeg, Nat.reduceAdd, Nat.reduceLeDiff, Nat.reduceEqDiff, ne_eq, List.length_cons, List.length_nil, Nat.reduceSub, x1, g7, q_isPower, j1]
  refine hQ _ (Fx.rf.hs (sPX_a (by decide))) (want_pl hL (fun b => hs_pp (by decide)) (fun k => ?_) (fun a h1 h2 h3 => ?_))
  · rw [hs_at, at_z]
  · rw [hs_ne (by omega)]
/-! payments -/
theorem payP_t {v w : Int} : sTx (payP P v w) = sTx P ∧ rTx (payP P v w) = rTx P ∧ uTx (payP P v w) = uTx P ∧ yTx (payP P v w) = yTx P + 1 := by
  refine ⟨?_, ?_, ?_, ?_⟩
  · simp only [sTx, rTx, uTx, yTx, payP, hs_app, Int.reduceEq, Int.reduceAdd, and_false, false_and, and_true, true_and, if_false, if_true, reduceIte, eq_self, and_self]
  · simp only [sTx, rTx, uTx, yTx, payP, hs_app, Int.reduceEq, Int.reduceAdd, and_false, false_and, and_true, true_and, if_false, if_true, reduceIte, eq_self, and_self]
  · simp only [sTx, rTx, uTx, yTx, payP, hs_app, Int.reduceEq, Int.reduceAdd, and_false, false_and, and_true, true_and, if_false, if_true, reduceIte, eq_self, and_self]
  · show (payP P v w 91 3).toNat = _
    unfold payP; rw [hs_same]; rfl
theorem payP_o {v w a : Int} (h : a ≠ 91 ∧ a ≠ 105 ∧ a ≠ 106) : payP P v w a = P a := by
  unfold payP
  rw [hs_ne h.1, hs_ne h.2.2, hs_ne h.2.1]
theorem payP_c {v w : Int} : (∀ k : Nat, payP P v w 105 k = if k = yTx P then v else P 105 k) ∧ ∀ k : Nat, payP P v w 106 k = if k = yTx P then w else P 106 k := by
  refine ⟨fun k => ?_, fun k => ?_⟩ <;> simp only [payP, hs_app, Int.reduceEq, Int.reduceAdd, and_false, false_and, and_true, true_and, if_false, if_true, reduceIte, eq_self, and_self, at_z]
theorem payP_B {v w : Int} (hB : TxB P) (hn : yTx P < 12) (hv : 1 ≤ v ∧ v ≤ 999) (hw : 0 ≤ w ∧ w ≤ 999) : TxB (payP P v w) := by
  obtain ⟨t0, t1, t2, t3⟩ := payP_t (P := P) (v := v) (w := w)
  obtain ⟨c5, c6⟩ := payP_c (P := P) (v := v) (w := w)
  have o : ∀ a : Int, a ≠ 91 ∧ a ≠ 105 ∧ a ≠ 106 → payP P v w a = P a := fun a h => payP_o h
  have n3 : payP P v w 91 3 = ((yTx P + 1 : Nat) : Int) := hs_same
  have n0 : payP P v w 91 0 = P 91 0 := by simp only [payP, hs_app, Int.reduceEq, Int.reduceAdd, and_false, false_and, and_true, true_and, if_false, if_true, reduceIte, eq_self, and_self]
  have n1 : payP P v w 91 1 = P 91 1 := by simp only [payP, hs_app, Int.reduceEq, Int.reduceAdd, and_false, false_and, and_true, true_and, if_false, if_true, reduceIte, eq_self, and_self]
  have n2 : payP P v w 91 2 = P 91 2 := by simp only [payP, hs_app, Int.reduceEq, Int.reduceAdd, and_false, false_and, and_true, true_and, if_false, if_true, reduceIte, eq_self, and_self]
  obtain ⟨b0, b1, b2, b3, b4, b5, b6, b7, b8, b9, b10, b11, b12, b13, b14, b15, b16⟩ := hB
  unfold TxB
  rw [t0, t1, t2, t3, n0, n1, n2, n3, o 92 (by decide), o 93 (by decide), o 94 (by decide), o 96 (by decide), o 97 (by decide), o 98 (by decide), o 99 (by decide), o 100 (by decide), o 101 (by decide), o 103 (by decide), o 104 (by decide)]
  refine ⟨b0, b1, b2, ⟨rfl, by omega⟩, b4, b5, b6, b7, b8, b9, b10, b11, b12, b13, b14, fun k hk => ?_, fun k hk => ?_⟩
  · rw [c5]; split
    · exact hv
    · exact b15 k (by omega)
  · rw [c6]; split
    · exact hw
    · exact b16 k (by omega)
theorem pay_pl {H' : Hp} {v w : Int} (hL : PlT P H p)
    (e17 : H' p 17 = ((yTx P + 1 : Nat) : Int)) (ep : ∀ b, b ≠ 17 → H' p b = H p b)
    (e11 : ∀ k : Nat, H' (p + 11) k = if k = yTx P then v else H (p + 11) k) (e12 : ∀ k : Nat, H' (p + 12) k = if k = yTx P then w else H (p + 12) k)
    (eo : ∀ a, p + 1 ≤ a → a ≤ p + 12 → a ≠ p + 11 → a ≠ p + 12 → H' a = H a) : PlT (payP P v w) H' p := by
  obtain ⟨t0, t1, t2, t3⟩ := payP_t (P := P) (v := v) (w := w)
  obtain ⟨c5, c6⟩ := payP_c (P := P) (v := v) (w := w)
  have o : ∀ a : Int, a ≠ 91 ∧ a ≠ 105 ∧ a ≠ 106 → payP P v w a = P a := fun a h => payP_o h
  obtain ⟨⟨a0, a1, a2, a3, a4, a5⟩, gS, gF, gR, gW, gU, gV, ⟨y1, y2⟩, gL⟩ := hL
  unfold PlT
  rw [t0, t1, t2, t3, e17, ep 0 (by decide), ep 6 (by decide), ep 13 (by decide), ep 10 (by decide), ep 12 (by decide), ep 4 (by decide), ep 5 (by decide), eo (p + 1) (by omega) (by omega) (by omega) (by omega), eo (p + 2) (by omega) (by omega) (by omega) (by omega), eo (p + 3) (by omega) (by omega) (by omega) (by omega), eo (p + 4) (by omega) (by omega) (by omega) (by omega), eo (p + 5) (by omega) (by omega) (by omega) (by omega), eo (p + 6) (by omega) (by omega) (by omega) (by omega), eo (p + 7) (by omega) (by omega) (by omega) (by omega), eo (p + 8) (by omega) (by omega) (by omega) (by omega), eo (p + 9) (by omega) (by omega) (by omega) (by omega), eo (p + 10) (by omega) (by omega) (by omega) (by omega), o 92 (by decide), o 93 (by decide), o 94 (by decide), o 95 (by decide), o 96 (by decide), o 97 (by decide), o 98 (by decide), o 99 (by decide), o 100 (by decide), o 101 (by decide), o 102 (by decide), o 103 (by decide), o 104 (by decide)]
  refine ⟨⟨a0, a1, a2, rfl, a4, a5⟩, gS, gF, gR, gW, gU, gV, ⟨fun k hk => ?_, fun k hk => ?_⟩, gL⟩
  · rw [c5, e11]; split
    · rfl
    · exact y1 k (by omega)
  · rw [c6, e12]; split
    · rfl
    · exact y2 k (by omega)
set_option maxRecDepth 20000 in
theorem c_addPayment (hp : p = 5 ∨ p = 25) (hP : Ptr H) (hL : PlT P H p) (hn : yTx P < 12) {v w : Int}
    (hQ : ∀ H', Fx (sPX p) H H' → PlT (payP P v w) H' p → Q vu H') : CC d PL_addPayment [va p, vi v, vi w] H Q := by
  have h0 : H p 17 = yTx P := hL.1.2.2.2.1
  obtain ⟨x1, -, -, -, -, -, -, -, -, -, -, g11, g12⟩ := pp_f hp hP
  have r1 : ∀ (X : Hp) (j v b : Int), hs X (p + 11) j v p b = X p b := fun X j v b => hs_pp (by decide)
  have r2 : ∀ (X : Hp) (j v b : Int), hs X (p + 12) j v p b = X p b := fun X j v b => hs_pp (by decide)
  have c1 : (yTx P : Int) < 12 := by omega
  have j1 : 0 ≤ (yTx P : Int) ∧ (yTx P : Int) < 12 := by omega
  have kw : w32 ((yTx P : Int) + 1) = ((yTx P + 1 : Nat) : Int) := w32_s (by omega)
  simp only [en_PL_addPayment, e_PL_addPayment_0, k_PL_addPayment_0, e_PL_addPayment_1, k_PL_addPayment_1, rr, sh, Nat.reduceLT, Nat.reduceMul, Int.reduceToNat, Int.reduceGT, Int.reduceGE, Int.reduceNe, true_and, and_true, true_or, or_true, false_or, or_false, and_self, or_self, if_true, if_false, reduceIte, not_true_eq_false, not_false_eq_true, Int.reduceEq, Int.reduceNe, Int.reduceLT, Int.reduceLE, Int.reduceAdd, Int.reduceSub, Int.reduceMul, Int.reduceNeg, Nat.reduceAdd, Nat.reduceLeDiff, Nat.reduceEqDiff, ne_eq, List.length_cons, List.length_nil, Nat.reduceSub, r1, r2, x1, g11, g12, h0, c1, j1, kw]
  clear kw r1 r2 g11 g12
  refine hQ _ (((Fx.rf.hs (sPX_a (by decide))).hs (sPX_a (by decide))).hs (sPX_p (by decide))) (pay_pl hL hs_same (fun b hb => ?_) (fun k => ?_) (fun k => ?_) (fun a h1 h2 h3 h4 => ?_))
  · rw [hs2 (fun z => hb z.2), hs_pp (by decide), hs_pp (by decide)]
  · rw [hs_ne' (by omega), hs_ne' (by omega), hs_at, at_z]
  · rw [hs_ne' (by omega), hs_at, at_z, hs_ne' (by omega)]
  · rw [hs_ne (by omega), hs_ne (by omega), hs_ne (by omega)]
/-! runs -/
theorem sidP_c {L : Nat → Int} : (∀ a : Int, a ≠ 102 → sidP P L a = P a) ∧ (∀ k : Nat, k < 12 → sidP P L 102 ((12 * uTx P + k : Nat) : Int) = L k) ∧ ∀ i : Nat, (i < 12 * uTx P ∨ 12 * uTx P + 12 ≤ i) → sidP P L 102 i = P 102 i := by
  refine ⟨fun a h => funext fun b => if_neg (fun z => h z.1), fun k hk => ?_, fun i hi => ?_⟩
  · unfold sidP
    rw [if_pos (by omega), toNat_k, Nat.add_sub_cancel_left]
  · unfold sidP
    rw [if_neg (by omega)]
theorem runP_t {v w : Int} : sTx (runP P v w) = sTx P ∧ rTx (runP P v w) = rTx P ∧ uTx (runP P v w) = uTx P + 1 ∧ yTx (runP P v w) = yTx P := by
  refine ⟨?_, ?_, ?_, ?_⟩
  · simp only [sTx, rTx, uTx, yTx, runP, hs_app, Int.reduceEq, Int.reduceAdd, and_false, false_and, and_true, true_and, if_false, if_true, reduceIte, eq_self, and_self]
  · simp only [sTx, rTx, uTx, yTx, runP, hs_app, Int.reduceEq, Int.reduceAdd, and_false, false_and, and_true, true_and, if_false, if_true, reduceIte, eq_self, and_self]
  · show (runP P v w 91 2).toNat = _
    unfold runP; rw [hs_same]; rfl
  · simp only [sTx, rTx, uTx, yTx, runP, hs_app, Int.reduceEq, Int.reduceAdd, and_false, false_and, and_true, true_and, if_false, if_true, reduceIte, eq_self, and_self]
theorem runP_o {v w a : Int} (h : a ≠ 91 ∧ a ≠ 103 ∧ a ≠ 104) : runP P v w a = P a := by
  unfold runP
  rw [hs_ne h.1, hs_ne h.2.2, hs_ne h.2.1]
theorem runP_c {v w : Int} : (∀ k : Nat, runP P v w 103 k = if k = uTx P then v else P 103 k) ∧ ∀ k : Nat, runP P v w 104 k = if k = uTx P then w else P 104 k := by
  refine ⟨fun k => ?_, fun k => ?_⟩ <;> simp only [runP, hs_app, Int.reduceEq, Int.reduceAdd, and_false, false_and, and_true, true_and, if_false, if_true, reduceIte, eq_self, and_self, at_z]
theorem sidP_t {L : Nat → Int} : sTx (sidP P L) = sTx P ∧ rTx (sidP P L) = rTx P ∧ uTx (sidP P L) = uTx P ∧ yTx (sidP P L) = yTx P := by
  unfold sTx rTx uTx yTx
  rw [sidP_c.1 91 (by decide)]
  exact ⟨rfl, rfl, rfl, rfl⟩
theorem sidP_B {L : Nat → Int} (hB : TxB P) : TxB (sidP P L) := by
  obtain ⟨t0, t1, t2, t3⟩ := sidP_t (P := P) (L := L)
  have o := (sidP_c (P := P) (L := L)).1
  unfold TxB
  rw [t0, t1, t2, t3, o 91 (by decide), o 92 (by decide), o 93 (by decide), o 94 (by decide), o 96 (by decide), o 97 (by decide), o 98 (by decide), o 99 (by decide), o 100 (by decide), o 101 (by decide), o 103 (by decide), o 104 (by decide), o 105 (by decide), o 106 (by decide)]
  exact hB
theorem runP_B {v w : Int} (hB : TxB P) (hn : uTx P < 8) (hv : 0 ≤ v ∧ v ≤ 3) (hw : -99999 ≤ w ∧ w ≤ 99999) : TxB (runP P v w) := by
  obtain ⟨t0, t1, t2, t3⟩ := runP_t (P := P) (v := v) (w := w)
  obtain ⟨c5, c6⟩ := runP_c (P := P) (v := v) (w := w)
  have o : ∀ a : Int, a ≠ 91 ∧ a ≠ 103 ∧ a ≠ 104 → runP P v w a = P a := fun a h => runP_o h
  have n2 : runP P v w 91 2 = ((uTx P + 1 : Nat) : Int) := hs_same
  have n0 : runP P v w 91 0 = P 91 0 := by simp only [runP, hs_app, Int.reduceEq, Int.reduceAdd, and_false, false_and, and_true, true_and, if_false, if_true, reduceIte, eq_self, and_self]
  have n1 : runP P v w 91 1 = P 91 1 := by simp only [runP, hs_app, Int.reduceEq, Int.reduceAdd, and_false, false_and, and_true, true_and, if_false, if_true, reduceIte, eq_self, and_self]
  have n3 : runP P v w 91 3 = P 91 3 := by simp only [runP, hs_app, Int.reduceEq, Int.reduceAdd, and_false, false_and, and_true, true_and, if_false, if_true, reduceIte, eq_self, and_self]
  obtain ⟨b0, b1, b2, b3, b4, b5, b6, b7, b8, b9, b10, b11, b12, b13, b14, b15, b16⟩ := hB
  unfold TxB
  rw [t0, t1, t2, t3, n0, n1, n2, n3, o 92 (by decide), o 93 (by decide), o 94 (by decide), o 96 (by decide), o 97 (by decide), o 98 (by decide), o 99 (by decide), o 100 (by decide), o 101 (by decide), o 105 (by decide), o 106 (by decide)]
  refine ⟨b0, b1, ⟨rfl, by omega⟩, b3, b4, b5, b6, b7, b8, b9, b10, b11, b12, fun k hk => ?_, fun k hk => ?_, b15, b16⟩
  · rw [c5]; split
    · exact hv
    · exact b13 k (by omega)
  · rw [c6]; split
    · exact hw
    · exact b14 k (by omega)
theorem run_pl {H' : Hp} {v w : Int} {L : Nat → Int} (hL : PlS L P H p) (hu : uTx P < 8)
    (e13 : H' p 13 = ((uTx P + 1 : Nat) : Int)) (ep : ∀ b, b ≠ 13 → H' p b = H p b)
    (e9 : ∀ k : Nat, H' (p + 9) k = if k = uTx P then v else H (p + 9) k) (e10 : ∀ k : Nat, H' (p + 10) k = if k = uTx P then w else H (p + 10) k)
    (eo' : ∀ a, p + 1 ≤ a → a ≤ p + 12 → a ≠ p + 9 → a ≠ p + 10 → H' a = H a) : PlT (runP (sidP P L) v w) H' p := by
  obtain ⟨t0, t1, t2, t3⟩ := runP_t (P := sidP P L) (v := v) (w := w)
  obtain ⟨z0, z1, z2, z3⟩ := sidP_t (P := P) (L := L)
  obtain ⟨c5, c6⟩ := runP_c (P := sidP P L) (v := v) (w := w)
  obtain ⟨d0, d1, d2⟩ := sidP_c (P := P) (L := L)
  rw [z0] at t0
  rw [z1] at t1
  rw [z2] at t2 c5 c6
  rw [z3] at t3
  have o : ∀ a : Int, (a ≠ 91 ∧ a ≠ 103 ∧ a ≠ 104) ∧ a ≠ 102 → runP (sidP P L) v w a = P a := fun a h => (runP_o h.1).trans (d0 a h.2)
  have o2 : runP (sidP P L) v w 102 = sidP P L 102 := runP_o (by decide)
  obtain ⟨H0, hL0, k0, ko, k8⟩ := hL
  have eo : ∀ a, p + 1 ≤ a → a ≤ p + 12 → a ≠ p + 9 → a ≠ p + 10 → a ≠ p + 8 → H' a = H0 a := fun a h1 h2 h3 h4 h5 => (eo' a h1 h2 h3 h4).trans (ko a h1 h2 h5)
  have e8 : H' (p + 8) = H (p + 8) := eo' (p + 8) (by omega) (by omega) (by omega) (by omega)
  have e99 : H (p + 9) = H0 (p + 9) := ko (p + 9) (by omega) (by omega) (by omega)
  have e100 : H (p + 10) = H0 (p + 10) := ko (p + 10) (by omega) (by omega) (by omega)
  obtain ⟨⟨a0, a1, a2, a3, a4, a5⟩, gS, gF, gR, gW, ⟨u1, u2⟩, ⟨v1, v2⟩, gY, gL⟩ := hL0
  unfold PlT
  rw [t0, t1, t2, t3, e13, ep 0 (by decide), ep 6 (by decide), ep 17 (by decide), ep 10 (by decide), ep 12 (by decide), ep 4 (by decide), ep 5 (by decide), k0, e8, eo (p + 1) (by omega) (by omega) (by omega) (by omega) (by omega), eo (p + 2) (by omega) (by omega) (by omega) (by omega) (by omega), eo (p + 3) (by omega) (by omega) (by omega) (by omega) (by omega), eo (p + 4) (by omega) (by omega) (by omega) (by omega) (by omega), eo (p + 5) (by omega) (by omega) (by omega) (by omega) (by omega), eo (p + 6) (by omega) (by omega) (by omega) (by omega) (by omega), eo (p + 7) (by omega) (by omega) (by omega) (by omega) (by omega), eo (p + 11) (by omega) (by omega) (by omega) (by omega) (by omega), eo (p + 12) (by omega) (by omega) (by omega) (by omega) (by omega), o 92 (by decide), o 93 (by decide), o 94 (by decide), o 95 (by decide), o 96 (by decide), o 97 (by decide), o 98 (by decide), o 99 (by decide), o 100 (by decide), o 101 (by decide), o 105 (by decide), o 106 (by decide), o2]
  refine ⟨⟨a0, a1, rfl, a3, a4, a5⟩, gS, gF, gR, gW, ⟨fun r k hr hk => ?_, fun i h1 h2 => ?_⟩, ⟨fun k hk => ?_, fun k hk => ?_⟩, gY, gL⟩
  · rw [show (12 * (r : Int) + (k : Int)) = ((12 * r + k : Nat) : Int) by omega, k8 _ (by omega)]
    by_cases c : r = uTx P
    · subst c
      rw [if_pos (by omega), d1 k hk, Nat.add_sub_cancel_left]
      rfl
    · rw [if_neg (by omega), d2 _ (Or.inl (by omega))]
      have := u1 r k (by omega) hk
      rw [show (12 * (r : Int) + (k : Int)) = ((12 * r + k : Nat) : Int) by omega] at this
      exact this
  · rw [k8 i h2, if_neg (by omega)]
    exact u2 i (by omega) h2
  · rw [c5, e9, e99]; split
    · rfl
    · rw [d0 103 (by decide)]; exact v1 k (by omega)
  · rw [c6, e10, e100]; split
    · rfl
    · rw [d0 104 (by decide)]; exact v2 k (by omega)
set_option maxRecDepth 20000 in
theorem c_addRun (hp : p = 5 ∨ p = 25) (hP : Ptr H) {L : Nat → Int} (hL : PlS L P H p) (hn : uTx P < 8) {v w : Int}
    (hQ : ∀ H', Fx (sPX p) H H' → PlT (runP (sidP P L) v w) H' p → Q vu H') : CC d PL_addRun [va p, vi v, vi w] H Q := by
  have h0 : H p 13 = uTx P := by obtain ⟨H0, h1, h2, -⟩ := hL; rw [h2]; exact h1.1.2.2.1
  obtain ⟨x1, -, -, -, -, -, -, -, -, g9, g10, -⟩ := pp_f hp hP
  have r1 : ∀ (X : Hp) (j v b : Int), hs X (p + 9) j v p b = X p b := fun X j v b => hs_pp (by decide)
  have r2 : ∀ (X : Hp) (j v b : Int), hs X (p + 10) j v p b = X p b := fun X j v b => hs_pp (by decide)
  have c1 : (uTx P : Int) < 8 := by omega
  have j1 : 0 ≤ (uTx P : Int) ∧ (uTx P : Int) < 8 := by omega
  have kw : w32 ((uTx P : Int) + 1) = ((uTx P + 1 : Nat) : Int) := w32_s (by omega)
  simp only [en_PL_addRun, e_PL_addRun_0, k_PL_addRun_0, e_PL_addRun_1, k_PL_addRun_1, rr, sh, Nat.reduceLT, Nat.reduceMul, Int.reduceToNat, Int.reduceGT, Int.reduceGE, Int.reduceNe, true_and, and_true, true_or, or_true, false_or, or_false, and_self, or_self, if_true, if_false, reduceIte, not_true_eq_false, not_false_eq_true, Int.reduceEq, Int.reduceNe, Int.reduceLT, Int.reduceLE, Int.reduceAdd, Int.reduceSub, Int.reduceMul, Int.reduceNeg, Nat.reduceAdd, Nat.reduceLeDiff, Nat.reduceEqDiff, ne_eq, List.length_cons, List.length_nil, Nat.reduceSub, r1, r2, x1, g9, g10, h0, c1, j1, kw]
  clear kw r1 r2 g9 g10
  refine hQ _ (((Fx.rf.hs (sPX_a (by decide))).hs (sPX_a (by decide))).hs (sPX_p (by decide))) (run_pl hL hn hs_same (fun b hb => ?_) (fun k => ?_) (fun k => ?_) (fun a h1 h2 h3 h4 => ?_))
  · rw [hs2 (fun z => hb z.2), hs_pp (by decide), hs_pp (by decide)]
  · rw [hs_ne' (by omega), hs_ne' (by omega), hs_at, at_z]
  · rw [hs_ne' (by omega), hs_at, at_z, hs_ne' (by omega)]
  · rw [hs_ne (by omega), hs_ne (by omega), hs_ne (by omega)]
end PE
