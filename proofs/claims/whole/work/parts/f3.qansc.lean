/-! QUESTIONS: the class's answers -/
def aF (v : Int → Int) (t : Int) : Nat → Int
  | 0 => -1
  | n + 1 => if v (t + n) ≠ 0 ∧ aF v t n = -1 then t + n else aF v t n
def aL (v : Int → Int) (t : Int) : Nat → Int
  | 0 => -1
  | n + 1 => if v (t + n) ≠ 0 then t + n else aL v t n
def aO (v : Int → Int) (t : Int) : Nat → Int
  | 0 => 0
  | n + 1 => if v (t + n) ≠ 0 then aO v t n + 1 else aO v t n
def aT (v : Int → Int) (t : Int) : Nat → Int
  | 0 => 0
  | n + 1 => aT v t n + v (t + n)
def aX (v : Int → Int) (t : Int) : Nat → Int
  | 0 => -1000000
  | n + 1 => max (aX v t n) (v (t + n))
def aN (v : Int → Int) (t : Int) : Nat → Int
  | 0 => 1000000
  | n + 1 => min (aN v t n) (v (t + n))
/-- how many strokes are asked about -/
def nTq (V : Hp) : Nat := (min (V 71 47 + 100) 9999 - V 71 47 + 1).toNat
def ansQ (V : Hp) (w : Nat) (v : Int → Int) : Int := if w = 0 then aF v (V 71 47) (nTq V) else if w = 1 then aL v (V 71 47) (nTq V) else if w = 2 then aO v (V 71 47) (nTq V) else if w = 3 then aT v (V 71 47) (nTq V) else if w = 4 then aX v (V 71 47) (nTq V) else aN v (V 71 47) (nTq V)
def GdA (V : Hp) (cs : List Int) (w : Nat) (H : Hp) : Prop := Vw V H ∧ KoC H cs ∧ (H 38 5 = -1 ∨ ∃ t, KTn V H t) ∧ H 38 0 = w
section QV4
variable {d : Nat} {V H : Hp} {Q : AV → Hp → Prop} {cs : List Int} {w : Nat}
theorem sVA_scr (a b : Int) (h : sVA a b = true) : scr a b = true := by
  unfold sVA at h
  rw [Bool.or_eq_true] at h
  rcases h with h | h
  · exact sST_scr a b h
  · exact sKT_scr a b h
theorem GdA.va {H' : Hp} {t : Int} (h : GdA V cs w H) (hF : Fx sVA H H') (hK : KTn V H' t) : GdA V cs w H' := ⟨fx_vw h.1 hF sVA_scr, ⟨(hF 38 2 rfl).trans h.2.1.1, fun k hk => (hF 39 k rfl).trans (h.2.1.2 k hk)⟩, Or.inr ⟨t, hK⟩, (hF 38 0 rfl).trans h.2.2.2⟩
theorem nTq_f (h0 : 0 ≤ V 71 47) (h9 : V 71 47 ≤ 9999) : min (V 71 47 + 100) 9999 = V 71 47 + (nTq V : Nat) - 1 ∧ 1 ≤ nTq V ∧ nTq V ≤ 101 ∧ V 71 47 + (nTq V : Nat) ≤ 10000 := by unfold nTq; omega
theorem aT_bd {v : Int → Int} {t : Int} {m : Nat} (hv : ∀ k : Nat, k < m → BdQ (v (t + k))) : ∀ n : Nat, n ≤ m → -(1000000 * (n : Int)) ≤ aT v t n ∧ aT v t n ≤ 1000000 * (n : Int)
  | 0, _ => by show -(1000000 * (0 : Int)) ≤ 0 ∧ (0 : Int) ≤ 1000000 * (0 : Int); decide
  | n + 1, h => by
    have ih := aT_bd hv n (by omega)
    have b := hv n (by omega)
    unfold BdQ at b
    show -(1000000 * ((n + 1 : Nat) : Int)) ≤ aT v t n + v (t + n) ∧ aT v t n + v (t + n) ≤ 1000000 * ((n + 1 : Nat) : Int)
    generalize v (t + n) = x at *
    generalize aT v t n = y at *
    omega
theorem aO_bd {v : Int → Int} {t : Int} : ∀ n : Nat, 0 ≤ aO v t n ∧ aO v t n ≤ n
  | 0 => by show (0 : Int) ≤ 0 ∧ (0 : Int) ≤ ((0 : Nat) : Int); decide
  | n + 1 => by
    have ih := aO_bd (v := v) (t := t) n
    unfold aO
    split <;> omega
theorem vQ_bd {n : Nat} {b : Bool} {i : Int} (hn : n ≤ 40) (hw : WFq V cs n b) (h0 : 0 ≤ i) (h9 : i ≤ 9999) : BdQ (vQ V cs i) ∧ (b = true → isBl (vQ V cs i)) := by
  obtain ⟨-, v, hv, bv, bl⟩ := hw i h0 h9 [] (fun x hx => by cases hx) (by rw [List.length_nil]; omega)
  have ev : vQ V cs i = v := by unfold vQ; rw [hv]; rfl
  rw [ev]
  exact ⟨bv, bl⟩
set_option maxRecDepth 20000 in
theorem c_answerTest (hI : Inq V) (hcl : cs.length ≤ 1600) {n : Nat} {b : Bool} (hn : n ≤ 40) (hw : WFq V cs n b) (hG : GdA V cs w H) (h2 : w ≤ 2) (hQ : ∀ H', Vw V H' → Q (vl (ansQ V w (vQ V cs))) H') : CC (d + 7) QU_answerTest [va 38, va 4, vi (V 71 47), vi (V 71 47 + (nTq V : Nat) - 1)] H Q := by
  have hs := hI.crew.stroke
  obtain ⟨-, n1, n2, n3⟩ := nTq_f hs.1 hs.2
  have key : ∀ k : Nat, k ≤ nTq V → ∀ H1, GdA V cs w H1 → R (d + 7) QU_answerTest (blk QU_answerTest 1) [va 38, va 4, vi (V 71 47), vi (V 71 47 + (nTq V : Nat) - 1), vi (aF (vQ V cs) (V 71 47) k), vi (aL (vQ V cs) (V 71 47) k), vi (aO (vQ V cs) (V 71 47) k), vi (V 71 47 + k)] [] H1 Q := by
    refine up_nat (P := fun k => ∀ H1, GdA V cs w H1 → R (d + 7) QU_answerTest (blk QU_answerTest 1) [va 38, va 4, vi (V 71 47), vi (V 71 47 + (nTq V : Nat) - 1), vi (aF (vQ V cs) (V 71 47) k), vi (aL (vQ V cs) (V 71 47) k), vi (aO (vQ V cs) (V 71 47) k), vi (V 71 47 + k)] [] H1 Q) ?_ ?_
    · intro H1 hG1
      have c1 : V 71 47 + (nTq V : Nat) - 1 < V 71 47 + (nTq V : Nat) := by omega
      have w0 := hG1.2.2.2
      have fin := hQ H1 hG1.1
      rw [e_QU_answerTest_1]
      have cw : w = 0 ∨ w = 1 ∨ w = 2 := by omega
      rcases cw with rfl | rfl | rfl
      · have fin : Q (vl (aF (vQ V cs) (V 71 47) (nTq V))) H1 := fin
        have w0 : H1 38 0 = 0 := w0
        simp only [k_QU_answerTest_1, e_QU_answerTest_5, k_QU_answerTest_5, e_QU_answerTest_6, k_QU_answerTest_6, e_QU_answerTest_7, k_QU_answerTest_7, e_QU_answerTest_8, k_QU_answerTest_8, rr, sh, Nat.reduceLT, Nat.reduceMul, Int.reduceToNat, Int.reduceGT, Int.reduceGE, Int.reduceNe, true_and, and_true, true_or, or_true, false_or, or_false, and_self, or_self, if_true, if_false, reduceIte, not_true_eq_false, not_false_eq_true, Int.reduceEq, Int.reduceNe, Int.reduceLT, Int.reduceLE, Int.reduceAdd, Int.reduceSub, Int.reduceMul, Int.reduceNeg, Nat.reduceAdd, Nat.reduceLeDiff, Nat.reduceEqDiff, ne_eq, List.length_cons, List.length_nil, Nat.reduceSub, c1, w0]
        exact fin
      · have fin : Q (vl (aL (vQ V cs) (V 71 47) (nTq V))) H1 := fin
        have w0 : H1 38 0 = 1 := w0
        simp only [k_QU_answerTest_1, e_QU_answerTest_5, k_QU_answerTest_5, e_QU_answerTest_6, k_QU_answerTest_6, e_QU_answerTest_7, k_QU_answerTest_7, e_QU_answerTest_8, k_QU_answerTest_8, rr, sh, Nat.reduceLT, Nat.reduceMul, Int.reduceToNat, Int.reduceGT, Int.reduceGE, Int.reduceNe, true_and, and_true, true_or, or_true, false_or, or_false, and_self, or_self, if_true, if_false, reduceIte, not_true_eq_false, not_false_eq_true, Int.reduceEq, Int.reduceNe, Int.reduceLT, Int.reduceLE, Int.reduceAdd, Int.reduceSub, Int.reduceMul, Int.reduceNeg, Nat.reduceAdd, Nat.reduceLeDiff, Nat.reduceEqDiff, ne_eq, List.length_cons, List.length_nil, Nat.reduceSub, c1, w0]
        exact fin
      · have fin : Q (vl (aO (vQ V cs) (V 71 47) (nTq V))) H1 := fin
        have w0 : H1 38 0 = 2 := w0
        simp only [k_QU_answerTest_1, e_QU_answerTest_5, k_QU_answerTest_5, e_QU_answerTest_6, k_QU_answerTest_6, e_QU_answerTest_7, k_QU_answerTest_7, e_QU_answerTest_8, k_QU_answerTest_8, rr, sh, Nat.reduceLT, Nat.reduceMul, Int.reduceToNat, Int.reduceGT, Int.reduceGE, Int.reduceNe, true_and, and_true, true_or, or_true, false_or, or_false, and_self, or_self, if_true, if_false, reduceIte, not_true_eq_false, not_false_eq_true, Int.reduceEq, Int.reduceNe, Int.reduceLT, Int.reduceLE, Int.reduceAdd, Int.reduceSub, Int.reduceMul, Int.reduceNeg, Nat.reduceAdd, Nat.reduceLeDiff, Nat.reduceEqDiff, ne_eq, List.length_cons, List.length_nil, Nat.reduceSub, c1, w0]
        exact fin
    · intro k hk ih H1 hG1
      have c1 : ¬ V 71 47 + (nTq V : Nat) - 1 < V 71 47 + (k : Int) := by omega
      have kw : w32 (V 71 47 + (k : Int) + 1) = V 71 47 + ((k + 1 : Nat) : Int) := by rw [w32_id (by omega) (by omega)]; omega
      have i0 : 0 ≤ V 71 47 + (k : Int) := by omega
      have i9 : V 71 47 + (k : Int) ≤ 9999 := by omega
      have ob := aO_bd (v := vQ V cs) (t := V 71 47) k
      have ow : w32 (aO (vQ V cs) (V 71 47) k + 1) = aO (vQ V cs) (V 71 47) k + 1 := by
        generalize aO (vQ V cs) (V 71 47) k = z at ob ⊢
        exact w32_id (by clear kw; omega) (by clear kw; omega)
      rw [e_QU_answerTest_1]
      simp only [k_QU_answerTest_1, rr, sh, Nat.reduceLT, Nat.reduceMul, Int.reduceToNat, Int.reduceGT, Int.reduceGE, Int.reduceNe, true_and, and_true, true_or, or_true, false_or, or_false, and_self, or_self, if_true, if_false, reduceIte, not_true_eq_false, not_false_eq_true, Int.reduceEq, Int.reduceNe, Int.reduceLT, Int.reduceLE, Int.reduceAdd, Int.reduceSub, Int.reduceMul, Int.reduceNeg, Nat.reduceAdd, Nat.reduceLeDiff, Nat.reduceEqDiff, ne_eq, List.length_cons, List.length_nil, Nat.reduceSub, c1]
      refine c_keepTen (d := d + 1) hI hG1.1 i0 i9 hG1.2.2.1 (fun Ha Fa hTa => ?_)
      have hGa := hG1.va (Fa.up sKT_va) hTa
      refine c_valueAt hI hGa.1 i0 i9 hcl hn hw hGa.2.1 hTa (fun H2 F hK => ?_)
      have ih := ih H2 (hGa.va F hK)
      by_cases c2 : vQ V cs (V 71 47 + (k : Int)) = 0
      · have e1 : aF (vQ V cs) (V 71 47) (k + 1) = aF (vQ V cs) (V 71 47) k := if_neg (fun z => z.1 c2)
        have e2 : aL (vQ V cs) (V 71 47) (k + 1) = aL (vQ V cs) (V 71 47) k := if_neg (fun z => z c2)
        have e3 : aO (vQ V cs) (V 71 47) (k + 1) = aO (vQ V cs) (V 71 47) k := if_neg (fun z => z c2)
        rw [e1, e2, e3] at ih
        simp only [e_QU_answerTest_4, k_QU_answerTest_4, rr, sh, Nat.reduceLT, Nat.reduceMul, Int.reduceToNat, Int.reduceGT, Int.reduceGE, Int.reduceNe, true_and, and_true, true_or, or_true, false_or, or_false, and_self, or_self, if_true, if_false, reduceIte, not_true_eq_false, not_false_eq_true, Int.reduceEq, Int.reduceNe, Int.reduceLT, Int.reduceLE, Int.reduceAdd, Int.reduceSub, Int.reduceMul, Int.reduceNeg, Nat.reduceAdd, Nat.reduceLeDiff, Nat.reduceEqDiff, ne_eq, List.length_cons, List.length_nil, Nat.reduceSub, c3_eq, c2, kw]
        exact ih
      · have e2 : aL (vQ V cs) (V 71 47) (k + 1) = V 71 47 + k := if_pos c2
        have e3 : aO (vQ V cs) (V 71 47) (k + 1) = aO (vQ V cs) (V 71 47) k + 1 := if_pos c2
        by_cases c3 : aF (vQ V cs) (V 71 47) k = -1
        · have e1 : aF (vQ V cs) (V 71 47) (k + 1) = V 71 47 + k := if_pos ⟨c2, c3⟩
          rw [e1, e2, e3] at ih
          simp only [e_QU_answerTest_2, k_QU_answerTest_2, e_QU_answerTest_3, k_QU_answerTest_3, e_QU_answerTest_4, k_QU_answerTest_4, rr, sh, Nat.reduceLT, Nat.reduceMul, Int.reduceToNat, Int.reduceGT, Int.reduceGE, Int.reduceNe, true_and, and_true, true_or, or_true, false_or, or_false, and_self, or_self, if_true, if_false, reduceIte, not_true_eq_false, not_false_eq_true, Int.reduceEq, Int.reduceNe, Int.reduceLT, Int.reduceLE, Int.reduceAdd, Int.reduceSub, Int.reduceMul, Int.reduceNeg, Nat.reduceAdd, Nat.reduceLeDiff, Nat.reduceEqDiff, ne_eq, List.length_cons, List.length_nil, Nat.reduceSub, c3_eq, c2, c3, kw, ow]
          exact ih
        · have e1 : aF (vQ V cs) (V 71 47) (k + 1) = aF (vQ V cs) (V 71 47) k := if_neg (fun z => c3 z.2)
          rw [e1, e2, e3] at ih
          simp only [e_QU_answerTest_2, k_QU_answerTest_2, e_QU_answerTest_3, k_QU_answerTest_3, e_QU_answerTest_4, k_QU_answerTest_4, rr, sh, Nat.reduceLT, Nat.reduceMul, Int.reduceToNat, Int.reduceGT, Int.reduceGE, Int.reduceNe, true_and, and_true, true_or, or_true, false_or, or_false, and_self, or_self, if_true, if_false, reduceIte, not_true_eq_false, not_false_eq_true, Int.reduceEq, Int.reduceNe, Int.reduceLT, Int.reduceLE, Int.reduceAdd, Int.reduceSub, Int.reduceMul, Int.reduceNeg, Nat.reduceAdd, Nat.reduceLeDiff, Nat.reduceEqDiff, ne_eq, List.length_cons, List.length_nil, Nat.reduceSub, c3_eq, c2, c3, kw, ow]
          exact ih
  have := key 0 (Nat.zero_le _) H hG
  rw [show V 71 47 + ((0 : Nat) : Int) = V 71 47 from Int.add_zero _] at this
  simp only [en_QU_answerTest, e_QU_answerTest_0, k_QU_answerTest_0, rr, sh, Nat.reduceLT, Nat.reduceMul, Int.reduceToNat, Int.reduceGT, Int.reduceGE, Int.reduceNe, true_and, and_true, true_or, or_true, false_or, or_false, and_self, or_self, if_true, if_false, reduceIte, not_true_eq_false, not_false_eq_true, Int.reduceEq, Int.reduceNe, Int.reduceLT, Int.reduceLE, Int.reduceAdd, Int.reduceSub, Int.reduceMul, Int.reduceNeg, Nat.reduceAdd, Nat.reduceLeDiff, Nat.reduceEqDiff, ne_eq, List.length_cons, List.length_nil, Nat.reduceSub]
  exact this
set_option maxRecDepth 20000 in
theorem c_answerSum (hI : Inq V) (hcl : cs.length ≤ 1600) {n : Nat} {b : Bool} (hn : n ≤ 40) (hw : WFq V cs n b) (hG : GdA V cs w H) (h2 : ¬ w ≤ 2) (h5 : w ≤ 5) (hQ : ∀ H', Vw V H' → Q (vl (ansQ V w (vQ V cs))) H') : CC (d + 7) QU_answerSum [va 38, va 4, vi (V 71 47), vi (V 71 47 + (nTq V : Nat) - 1)] H Q := by
  have hs := hI.crew.stroke
  obtain ⟨-, n1, n2, n3⟩ := nTq_f hs.1 hs.2
  have hvb : ∀ k : Nat, k < nTq V → BdQ (vQ V cs (V 71 47 + k)) := fun k hk => (vQ_bd hn hw (by omega) (by omega)).1
  have key : ∀ k : Nat, k ≤ nTq V → ∀ (H1 : Hp) (y : AV), (y = vu ∨ ∃ v, y = vl v) → GdA V cs w H1 → R (d + 7) QU_answerSum (blk QU_answerSum 1) [va 38, va 4, vi (V 71 47), vi (V 71 47 + (nTq V : Nat) - 1), vl (aT (vQ V cs) (V 71 47) k), vu, vl (aX (vQ V cs) (V 71 47) k), vu, vl (aN (vQ V cs) (V 71 47) k), vu, vi (V 71 47 + k), y, vu] [] H1 Q := by
    refine up_nat (P := fun k => ∀ (H1 : Hp) (y : AV), (y = vu ∨ ∃ v, y = vl v) → GdA V cs w H1 → R (d + 7) QU_answerSum (blk QU_answerSum 1) [va 38, va 4, vi (V 71 47), vi (V 71 47 + (nTq V : Nat) - 1), vl (aT (vQ V cs) (V 71 47) k), vu, vl (aX (vQ V cs) (V 71 47) k), vu, vl (aN (vQ V cs) (V 71 47) k), vu, vi (V 71 47 + k), y, vu] [] H1 Q) ?_ ?_
    · intro H1 y hy hG1
      have c1 : V 71 47 + (nTq V : Nat) - 1 < V 71 47 + (nTq V : Nat) := by omega
      have w0 := hG1.2.2.2
      have fin := hQ H1 hG1.1
      rw [e_QU_answerSum_1]
      have cw : w = 3 ∨ w = 4 ∨ w = 5 := by omega
      rcases cw with rfl | rfl | rfl
      · have fin : Q (vl (aT (vQ V cs) (V 71 47) (nTq V))) H1 := fin
        have w0 : H1 38 0 = 3 := w0
        rcases hy with rfl | ⟨v, rfl⟩
        all_goals
          simp only [k_QU_answerSum_1, e_QU_answerSum_2, k_QU_answerSum_2, e_QU_answerSum_3, k_QU_answerSum_3, e_QU_answerSum_4, k_QU_answerSum_4, e_QU_answerSum_5, k_QU_answerSum_5, rr, sh, Nat.reduceLT, Nat.reduceMul, Int.reduceToNat, Int.reduceGT, Int.reduceGE, Int.reduceNe, true_and, and_true, true_or, or_true, false_or, or_false, and_self, or_self, if_true, if_false, reduceIte, not_true_eq_false, not_false_eq_true, Int.reduceEq, Int.reduceNe, Int.reduceLT, Int.reduceLE, Int.reduceAdd, Int.reduceSub, Int.reduceMul, Int.reduceNeg, Nat.reduceAdd, Nat.reduceLeDiff, Nat.reduceEqDiff, ne_eq, List.length_cons, List.length_nil, Nat.reduceSub, c1, w0]
          exact fin
      · have fin : Q (vl (aX (vQ V cs) (V 71 47) (nTq V))) H1 := fin
        have w0 : H1 38 0 = 4 := w0
        rcases hy with rfl | ⟨v, rfl⟩
        all_goals
          simp only [k_QU_answerSum_1, e_QU_answerSum_2, k_QU_answerSum_2, e_QU_answerSum_3, k_QU_answerSum_3, e_QU_answerSum_4, k_QU_answerSum_4, e_QU_answerSum_5, k_QU_answerSum_5, rr, sh, Nat.reduceLT, Nat.reduceMul, Int.reduceToNat, Int.reduceGT, Int.reduceGE, Int.reduceNe, true_and, and_true, true_or, or_true, false_or, or_false, and_self, or_self, if_true, if_false, reduceIte, not_true_eq_false, not_false_eq_true, Int.reduceEq, Int.reduceNe, Int.reduceLT, Int.reduceLE, Int.reduceAdd, Int.reduceSub, Int.reduceMul, Int.reduceNeg, Nat.reduceAdd, Nat.reduceLeDiff, Nat.reduceEqDiff, ne_eq, List.length_cons, List.length_nil, Nat.reduceSub, c1, w0]
          exact fin
      · have fin : Q (vl (aN (vQ V cs) (V 71 47) (nTq V))) H1 := fin
        have w0 : H1 38 0 = 5 := w0
        rcases hy with rfl | ⟨v, rfl⟩
        all_goals
          simp only [k_QU_answerSum_1, e_QU_answerSum_2, k_QU_answerSum_2, e_QU_answerSum_3, k_QU_answerSum_3, e_QU_answerSum_4, k_QU_answerSum_4, e_QU_answerSum_5, k_QU_answerSum_5, rr, sh, Nat.reduceLT, Nat.reduceMul, Int.reduceToNat, Int.reduceGT, Int.reduceGE, Int.reduceNe, true_and, and_true, true_or, or_true, false_or, or_false, and_self, or_self, if_true, if_false, reduceIte, not_true_eq_false, not_false_eq_true, Int.reduceEq, Int.reduceNe, Int.reduceLT, Int.reduceLE, Int.reduceAdd, Int.reduceSub, Int.reduceMul, Int.reduceNeg, Nat.reduceAdd, Nat.reduceLeDiff, Nat.reduceEqDiff, ne_eq, List.length_cons, List.length_nil, Nat.reduceSub, c1, w0]
          exact fin
    · intro k hk ih H1 y hy hG1
      have c1 : ¬ V 71 47 + (nTq V : Nat) - 1 < V 71 47 + (k : Int) := by omega
      have kw : w32 (V 71 47 + (k : Int) + 1) = V 71 47 + ((k + 1 : Nat) : Int) := by rw [w32_id (by omega) (by omega)]; omega
      have i0 : 0 ≤ V 71 47 + (k : Int) := by omega
      have i9 : V 71 47 + (k : Int) ≤ 9999 := by omega
      have tb := aT_bd (v := vQ V cs) (t := V 71 47) hvb k (Nat.le_of_lt hk)
      have vb := hvb k hk
      have tw : w64 (aT (vQ V cs) (V 71 47) k + vQ V cs (V 71 47 + k)) = aT (vQ V cs) (V 71 47) (k + 1) := by
        show _ = aT (vQ V cs) (V 71 47) k + vQ V cs (V 71 47 + k)
        unfold BdQ at vb
        generalize aT (vQ V cs) (V 71 47) k = z at tb ⊢
        generalize vQ V cs (V 71 47 + k) = u at vb ⊢
        exact w64_q (by clear kw; omega)
      have ex : max (aX (vQ V cs) (V 71 47) k) (vQ V cs (V 71 47 + k)) = aX (vQ V cs) (V 71 47) (k + 1) := rfl
      have en : min (aN (vQ V cs) (V 71 47) k) (vQ V cs (V 71 47 + k)) = aN (vQ V cs) (V 71 47) (k + 1) := rfl
      clear tb vb
      have vv : ∀ (y' : AV), (y' = vu ∨ ∃ v, y' = vl v) → True := fun _ _ => trivial
      rw [e_QU_answerSum_1]
      rcases hy with rfl | ⟨v, rfl⟩
      all_goals
        simp only [k_QU_answerSum_1, rr, sh, Nat.reduceLT, Nat.reduceMul, Int.reduceToNat, Int.reduceGT, Int.reduceGE, Int.reduceNe, true_and, and_true, true_or, or_true, false_or, or_false, and_self, or_self, if_true, if_false, reduceIte, not_true_eq_false, not_false_eq_true, Int.reduceEq, Int.reduceNe, Int.reduceLT, Int.reduceLE, Int.reduceAdd, Int.reduceSub, Int.reduceMul, Int.reduceNeg, Nat.reduceAdd, Nat.reduceLeDiff, Nat.reduceEqDiff, ne_eq, List.length_cons, List.length_nil, Nat.reduceSub, c1]
        refine c_keepTen (d := d + 1) hI hG1.1 i0 i9 hG1.2.2.1 (fun Ha Fa hTa => ?_)
        have hGa := hG1.va (Fa.up sKT_va) hTa
        refine c_valueAt hI hGa.1 i0 i9 hcl hn hw hGa.2.1 hTa (fun H2 F hK => ?_)
        have ih := ih H2 (vl (vQ V cs (V 71 47 + k))) (Or.inr ⟨_, rfl⟩) (hGa.va F hK)
        simp only [rr, sh, Nat.reduceLT, Nat.reduceMul, Int.reduceToNat, Int.reduceGT, Int.reduceGE, Int.reduceNe, true_and, and_true, true_or, or_true, false_or, or_false, and_self, or_self, if_true, if_false, reduceIte, not_true_eq_false, not_false_eq_true, Int.reduceEq, Int.reduceNe, Int.reduceLT, Int.reduceLE, Int.reduceAdd, Int.reduceSub, Int.reduceMul, Int.reduceNeg, Nat.reduceAdd, Nat.reduceLeDiff, Nat.reduceEqDiff, ne_eq, List.length_cons, List.length_nil, Nat.reduceSub, tw, q_maxL, q_minL, ex, en, kw]
        exact ih
  have := key 0 (Nat.zero_le _) H vu (Or.inl rfl) hG
  rw [show V 71 47 + ((0 : Nat) : Int) = V 71 47 from Int.add_zero _] at this
  simp only [en_QU_answerSum, e_QU_answerSum_0, k_QU_answerSum_0, rr, sh, Nat.reduceLT, Nat.reduceMul, Int.reduceToNat, Int.reduceGT, Int.reduceGE, Int.reduceNe, true_and, and_true, true_or, or_true, false_or, or_false, and_self, or_self, if_true, if_false, reduceIte, not_true_eq_false, not_false_eq_true, Int.reduceEq, Int.reduceNe, Int.reduceLT, Int.reduceLE, Int.reduceAdd, Int.reduceSub, Int.reduceMul, Int.reduceNeg, Nat.reduceAdd, Nat.reduceLeDiff, Nat.reduceEqDiff, ne_eq, List.length_cons, List.length_nil, Nat.reduceSub]
  exact this
set_option maxRecDepth 20000 in
theorem c_answerC (hI : Inq V) (hH : Vw V H) (hcl : cs.length ≤ 1600) {n : Nat} (hn : n ≤ 40) (hw : WFq V cs n (decide (w ≤ 2))) (hK : KoC H cs) (h38 : H 38 0 = w) (h5 : w ≤ 5) (hQ : ∀ H', Vw V H' → Q (vl (ansQ V w (vQ V cs))) H') : CC (d + 8) QU_answer [va 38, va 4] H Q := by
  have hst := hI.crew.stroke
  obtain ⟨n0, n1, n2, n3⟩ := nTq_f hst.1 hst.2
  have e3 : H 4 3 = V 71 47 := (hH 4 3 rfl).trans hI.cc.2.2.1
  have hG : GdA V cs w (hs H 38 5 (-1)) := ⟨hH.hs rfl, ⟨(hs2 (by decide)).trans hK.1, fun k hk => (hs_ne' (by decide)).trans (hK.2 k hk)⟩, Or.inl hs_same, (hs2 (by decide)).trans h38⟩
  have w1 : w32 (V 71 47 + 100) = V 71 47 + 100 := w32_id (by omega) (by omega)
  by_cases c : w ≤ 2
  · have c' : ¬ (2 : Int) < (w : Int) := by omega
    simp only [en_QU_answer, e_QU_answer_0, k_QU_answer_0, e_QU_answer_2, k_QU_answer_2, rr, sh, Nat.reduceLT, Nat.reduceMul, Int.reduceToNat, Int.reduceGT, Int.reduceGE, Int.reduceNe, true_and, and_true, true_or, or_true, false_or, or_false, and_self, or_self, if_true, if_false, reduceIte, not_true_eq_false, not_false_eq_true, Int.reduceEq, Int.reduceNe, Int.reduceLT, Int.reduceLE, Int.reduceAdd, Int.reduceSub, Int.reduceMul, Int.reduceNeg, Nat.reduceAdd, Nat.reduceLeDiff, Nat.reduceEqDiff, ne_eq, List.length_cons, List.length_nil, Nat.reduceSub, hs_app, false_and, and_false, e3, h38, w1, q_minI, n0, c']
    refine c_answerTest (d := d) hI hcl hn hw hG c (fun H' hv => ?_)
    have := hQ H' hv
    simp only [rr, sh, Nat.reduceLT, Nat.reduceMul, Int.reduceToNat, Int.reduceGT, Int.reduceGE, Int.reduceNe, true_and, and_true, true_or, or_true, false_or, or_false, and_self, or_self, if_true, if_false, reduceIte, not_true_eq_false, not_false_eq_true, Int.reduceEq, Int.reduceNe, Int.reduceLT, Int.reduceLE, Int.reduceAdd, Int.reduceSub, Int.reduceMul, Int.reduceNeg, Nat.reduceAdd, Nat.reduceLeDiff, Nat.reduceEqDiff, ne_eq, List.length_cons, List.length_nil, Nat.reduceSub]
    exact this
  · have c' : (2 : Int) < (w : Int) := by omega
    simp only [en_QU_answer, e_QU_answer_0, k_QU_answer_0, e_QU_answer_1, k_QU_answer_1, e_QU_answer_2, k_QU_answer_2, rr, sh, Nat.reduceLT, Nat.reduceMul, Int.reduceToNat, Int.reduceGT, Int.reduceGE, Int.reduceNe, true_and, and_true, true_or, or_true, false_or, or_false, and_self, or_self, if_true, if_false, reduceIte, not_true_eq_false, not_false_eq_true, Int.reduceEq, Int.reduceNe, Int.reduceLT, Int.reduceLE, Int.reduceAdd, Int.reduceSub, Int.reduceMul, Int.reduceNeg, Nat.reduceAdd, Nat.reduceLeDiff, Nat.reduceEqDiff, ne_eq, List.length_cons, List.length_nil, Nat.reduceSub, hs_app, false_and, and_false, e3, h38, w1, q_minI, n0, c']
    refine c_answerSum (d := d) hI hcl hn hw hG c h5 (fun H' hv => ?_)
    have := hQ H' hv
    simp only [rr, sh, Nat.reduceLT, Nat.reduceMul, Int.reduceToNat, Int.reduceGT, Int.reduceGE, Int.reduceNe, true_and, and_true, true_or, or_true, false_or, or_false, and_self, or_self, if_true, if_false, reduceIte, not_true_eq_false, not_false_eq_true, Int.reduceEq, Int.reduceNe, Int.reduceLT, Int.reduceLE, Int.reduceAdd, Int.reduceSub, Int.reduceMul, Int.reduceNeg, Nat.reduceAdd, Nat.reduceLeDiff, Nat.reduceEqDiff, ne_eq, List.length_cons, List.length_nil, Nat.reduceSub]
    exact this
end QV4
