/-! QUESTIONS: the class's reading, whole -/
def sQR (a b : Int) : Bool := sQC a b || (decide (a = 38) && decide (b = 0))
theorem sQC_qr (a b : Int) (h : sQC a b = true) : sQR a b = true := by unfold sQR; rw [h]; rfl
/-- what a question's reading ends with -/
def QErC (V : Hp) (kk pl : Int) : Prop := ∀ (d : Nat) (Q : AV → Hp → Prop), (∀ H', Fx sQR V H' → H' 2 6 = kk → H' 2 7 = pl → Q (vi 0) H') → CC (d + 100) QU_read [va 38, va 2] V Q
def QOkC (V : Hp) (w : Int) (a : Nat) (j : Int) (cs : List Int) : Prop := ∀ (d : Nat) (Q : AV → Hp → Prop), (∀ H', Fx sQR V H' → H' 38 0 = w → CQs V H' a j cs → Q (vi 1) H') → CC (d + 100) QU_read [va 38, va 2] V Q
section QR1
variable {d : Nat} {V H : Hp} {Q : AV → Hp → Prop}
theorem CQa.h0 {a : Nat} {j : Int} {cs : List Int} (h : CQa V H a j cs) {v : Int} : CQa V (hs H 38 0 v) a j cs := by
  obtain ⟨h1, h2, h3, h4, h5, h6⟩ := h
  refine ⟨?_, h2, (hs2 (by decide)).trans h3, fun k hk => (hs_ne' (by decide)).trans (h4 k hk), h5, (hs2 (by decide)).trans h6⟩
  unfold CRd TpV at h1 ⊢
  rw [hs_ne (show (2 : Int) ≠ 38 by decide), hs_ne (show (3 : Int) ≠ 38 by decide)]
  exact h1
/-- the heap ahead of the class's reading -/
def rq0 (V : Hp) : Hp := hs (hs (hs (hs (hs V 2 2 0) 2 3 (-1)) 2 6 0) 2 7 (-1)) 38 2 0
theorem rq0_fx : Fx sQR V (rq0 V) := ((((Fx.rf.hs (c := 2) (j := 2) rfl).hs (c := 2) (j := 3) rfl).hs (c := 2) (j := 6) rfl).hs (c := 2) (j := 7) rfl).hs (c := 38) (j := 2) rfl
theorem rq0_c (hP : Ptr V) : CQs V (rq0 V) (skE V 0) (-1) [] := by
  have p20 : V 2 0 = 3 := hP (2, 0, 3) (by decide +kernel)
  have p38 : V 38 1 = 39 := hP (38, 1, 39) (by decide +kernel)
  unfold rq0
  refine ⟨⟨0, ⟨⟨?_, ?_, ?_⟩, ?_, ?_, ?_, ?_, Nat.zero_le _⟩, rfl⟩, ?_, fun k hk => absurd hk (Nat.not_lt_zero k), Nat.zero_le _, ?_⟩
  · simp only [hs_app, Int.reduceEq, Int.reduceAdd, and_false, false_and, and_true, true_and, if_false, if_true, reduceIte, eq_self, and_self]; exact p20
  · simp only [hs_app, Int.reduceEq, Int.reduceAdd, and_false, false_and, and_true, true_and, if_false, if_true, reduceIte, eq_self, and_self]
  · rw [hs_ne (by decide), hs_ne (by decide), hs_ne (by decide), hs_ne (by decide), hs_ne (by decide)]
  · simp only [hs_app, Int.reduceEq, Int.reduceAdd, and_false, false_and, and_true, true_and, if_false, if_true, reduceIte, eq_self, and_self]; rfl
  · simp only [hs_app, Int.reduceEq, Int.reduceAdd, and_false, false_and, and_true, true_and, if_false, if_true, reduceIte, eq_self, and_self]
  · simp only [hs_app, Int.reduceEq, Int.reduceAdd, and_false, false_and, and_true, true_and, if_false, if_true, reduceIte, eq_self, and_self]
  · simp only [hs_app, Int.reduceEq, Int.reduceAdd, and_false, false_and, and_true, true_and, if_false, if_true, reduceIte, eq_self, and_self]
  · simp only [hs_app, Int.reduceEq, Int.reduceAdd, and_false, false_and, and_true, true_and, if_false, if_true, reduceIte, eq_self, and_self]; rfl
  · simp only [hs_app, Int.reduceEq, Int.reduceAdd, and_false, false_and, and_true, true_and, if_false, if_true, reduceIte, eq_self, and_self]; exact p38
set_option maxRecDepth 20000 in
/-- no question's word: a fault -/
theorem q_readN (hT : TapeR V) (hP : Ptr V) {w : Int} (hw : wrI V (skE V 0) (-1) QW = w) (hn : w < 0 ∨ 5 < w) : QErC V 1 (skE V 0) := by
  intro d Q hQ
  have h0 := rq0_c hP
  have F0 := rq0_fx (V := V)
  have xw := fun {Q} => x_word (d := d + 96) (Q := Q) hT h0
  rw [hw] at xw
  have b2 : hs (hs (rq0 V) 2 2 (skE V 0)) 38 0 w 2 2 = skE V 0 := (hs_ne' (by decide)).trans hs_same
  have fin := hQ (hs (hs (hs (hs (rq0 V) 2 2 (skE V 0)) 38 0 w) 2 6 1) 2 7 (skE V 0)) ((((F0.hs (c := 2) (j := 2) rfl).hs (c := 38) (j := 0) rfl).hs (c := 2) (j := 6) rfl).hs (c := 2) (j := 7) rfl) ((hs2 (by decide)).trans hs_same) hs_same
  have fh := fun {Q} => q_failHere (d := d + 98) (Q := Q) b2
  simp only [en_QU_read, e_QU_read_0, k_QU_read_0, e_QU_read_1, k_QU_read_1, en_TP_begin, e_TP_begin_0, k_TP_begin_0, rr, sh, Nat.reduceLT, Nat.reduceMul, Int.reduceToNat, Int.reduceGT, Int.reduceGE, Int.reduceNe, true_and, and_true, true_or, or_true, false_or, or_false, and_self, or_self, if_true, if_false, reduceIte, not_true_eq_false, not_false_eq_true, Int.reduceEq, Int.reduceNe, Int.reduceLT, Int.reduceLE, Int.reduceAdd, Int.reduceSub, Int.reduceMul, Int.reduceNeg, Nat.reduceAdd, Nat.reduceLeDiff, Nat.reduceEqDiff, ne_eq, List.length_cons, List.length_nil, Nat.reduceSub]
  rw [show hs (hs (hs (hs (hs V 2 2 0) 2 3 (-1)) 2 6 0) 2 7 (-1)) 38 2 0 = rq0 V from rfl]
  generalize rq0 V = X at *
  by_cases c1 : w < 0
  · simp only [e_QU_read_1, k_QU_read_1, xw, rr, sh, Nat.reduceLT, Nat.reduceMul, Int.reduceToNat, Int.reduceGT, Int.reduceGE, Int.reduceNe, true_and, and_true, true_or, or_true, false_or, or_false, and_self, or_self, if_true, if_false, reduceIte, not_true_eq_false, not_false_eq_true, Int.reduceEq, Int.reduceNe, Int.reduceLT, Int.reduceLE, Int.reduceAdd, Int.reduceSub, Int.reduceMul, Int.reduceNeg, Nat.reduceAdd, Nat.reduceLeDiff, Nat.reduceEqDiff, ne_eq, List.length_cons, List.length_nil, Nat.reduceSub, hs_app, false_and, and_false, c1, fh]
    exact fin
  · have c2 : ¬ w ≤ 5 := by omega
    simp only [e_QU_read_1, k_QU_read_1, xw, rr, sh, Nat.reduceLT, Nat.reduceMul, Int.reduceToNat, Int.reduceGT, Int.reduceGE, Int.reduceNe, true_and, and_true, true_or, or_true, false_or, or_false, and_self, or_self, if_true, if_false, reduceIte, not_true_eq_false, not_false_eq_true, Int.reduceEq, Int.reduceNe, Int.reduceLT, Int.reduceLE, Int.reduceAdd, Int.reduceSub, Int.reduceMul, Int.reduceNeg, Nat.reduceAdd, Nat.reduceLeDiff, Nat.reduceEqDiff, ne_eq, List.length_cons, List.length_nil, Nat.reduceSub, hs_app, false_and, and_false, c1, c2, fh]
    exact fin
set_option maxRecDepth 20000 in
theorem c_readQ (hT : TapeR V) (hP : Ptr V) {w : Nat} (hw : wrI V (skE V 0) (-1) QW = w) (h5 : w ≤ 5) {out : QO} (hS : w ≤ 2 → CQ V QU_test 90 (skE V (enE V (skE V 0))) (enE V (skE V 0)) 0 out) (hS2 : ¬ w ≤ 2 → CQ V QU_sum 90 (skE V (enE V (skE V 0))) (enE V (skE V 0)) 0 out)
    (hE : ∀ kk pl, out = .error (kk, pl) → ∀ H', Fx sQR V H' → H' 2 6 = kk → H' 2 7 = pl → Q (vi 0) H')
    (hN : ∀ a2 j2 cs, out = .ok (a2, j2, cs) → ¬ bz V a2 = -1 → ∀ H', Fx sQR V H' → H' 2 6 = 1 → H' 2 7 = a2 → Q (vi 0) H')
    (hK : ∀ a2 j2 cs, out = .ok (a2, j2, cs) → bz V a2 = -1 → ∀ H', Fx sQR V H' → H' 38 0 = w → CQs V H' a2 j2 cs → Q (vi 1) H') : CC (d + 100) QU_read [va 38, va 2] V Q := by
  have h0 := rq0_c hP
  have F0 := rq0_fx (V := V)
  have xw := fun {Q} => x_word (d := d + 96) (Q := Q) hT h0
  rw [hw] at xw
  have hm := h0.mv.h0 (v := (w : Int))
  have xp := fun {Q} => x_pass (d := d + 97) (Q := Q) hT hm
  have hp := hm.pass
  have F1 : Fx sQR V (hs (hs (hs (hs (rq0 V) 2 2 (skE V 0)) 38 0 w) 2 2 (enE V (skE V 0))) 2 3 (enE V (skE V 0))) := (((F0.hs (c := 2) (j := 2) rfl).hs (c := 38) (j := 0) rfl).hs (c := 2) (j := 2) rfl).hs (c := 2) (j := 3) rfl
  have P1 : Ptr (hs (hs (hs (hs (rq0 V) 2 2 (skE V 0)) 38 0 w) 2 2 (enE V (skE V 0))) 2 3 (enE V (skE V 0))) := ptr_fx hP F1 (by decide +kernel)
  have w0 : hs (hs (hs (hs (rq0 V) 2 2 (skE V 0)) 38 0 w) 2 2 (enE V (skE V 0))) 2 3 (enE V (skE V 0)) 38 0 = w := by simp only [hs_app, Int.reduceEq, Int.reduceAdd, and_false, false_and, and_true, true_and, if_false, if_true, reduceIte, eq_self, and_self]
  have c1 : ¬ (w : Int) < 0 := by omega
  have c2 : (w : Int) ≤ 5 := by omega
  -- behind the test, the sum
  have te : ∀ H', Fx sQC (hs (hs (hs (hs (rq0 V) 2 2 (skE V 0)) 38 0 w) 2 2 (enE V (skE V 0))) 2 3 (enE V (skE V 0))) H' → ∀ kk pl, out = .error (kk, pl) → H' 2 6 = kk → H' 2 7 = pl → R (d + 100) QU_read (blk QU_read 4) [va 38, va 2, vu] [vi 0] H' Q := by
    intro H' F kk pl z q6 q7
    have := hE kk pl z H' (F1.tr (F.up sQC_qr)) q6 q7
    simp only [e_QU_read_4, k_QU_read_4, e_QU_read_6, k_QU_read_6, e_QU_read_7, k_QU_read_7, rr, sh, Nat.reduceLT, Nat.reduceMul, Int.reduceToNat, Int.reduceGT, Int.reduceGE, Int.reduceNe, true_and, and_true, true_or, or_true, false_or, or_false, and_self, or_self, if_true, if_false, reduceIte, not_true_eq_false, not_false_eq_true, Int.reduceEq, Int.reduceNe, Int.reduceLT, Int.reduceLE, Int.reduceAdd, Int.reduceSub, Int.reduceMul, Int.reduceNeg, Nat.reduceAdd, Nat.reduceLeDiff, Nat.reduceEqDiff, ne_eq, List.length_cons, List.length_nil, Nat.reduceSub]
    exact this
  have tk : ∀ H', Fx sQC (hs (hs (hs (hs (rq0 V) 2 2 (skE V 0)) 38 0 w) 2 2 (enE V (skE V 0))) 2 3 (enE V (skE V 0))) H' → ∀ a2 j2 cs, out = .ok (a2, j2, cs) → CQs V H' a2 j2 cs → R (d + 100) QU_read (blk QU_read 4) [va 38, va 2, vu] [vi 1] H' Q := by
    intro H' F a2 j2 cs z hC
    have G := F1.tr (F.up sQC_qr)
    have w2 : H' 38 0 = w := (F 38 0 rfl).trans w0
    by_cases c : bz V a2 = -1
    · have := hK _ _ _ z c _ (G.hs (c := 2) (j := 2) rfl) ((hs_ne' (by decide)).trans w2) hC.mv.s
      simp only [e_QU_read_4, k_QU_read_4, e_QU_read_5, k_QU_read_5, e_QU_read_6, k_QU_read_6, e_QU_read_7, k_QU_read_7, rr, sh, Nat.reduceLT, Nat.reduceMul, Int.reduceToNat, Int.reduceGT, Int.reduceGE, Int.reduceNe, true_and, and_true, true_or, or_true, false_or, or_false, and_self, or_self, if_true, if_false, reduceIte, not_true_eq_false, not_false_eq_true, Int.reduceEq, Int.reduceNe, Int.reduceLT, Int.reduceLE, Int.reduceAdd, Int.reduceSub, Int.reduceMul, Int.reduceNeg, Nat.reduceAdd, Nat.reduceLeDiff, Nat.reduceEqDiff, ne_eq, List.length_cons, List.length_nil, Nat.reduceSub, x_next hT hC, c]
      exact this
    · have := hN _ _ _ z c _ (((G.hs (c := 2) (j := 2) rfl).hs (c := 2) (j := 6) rfl).hs (c := 2) (j := 7) rfl) fl_6 hs_same
      simp only [e_QU_read_4, k_QU_read_4, e_QU_read_5, k_QU_read_5, e_QU_read_6, k_QU_read_6, e_QU_read_7, k_QU_read_7, rr, sh, Nat.reduceLT, Nat.reduceMul, Int.reduceToNat, Int.reduceGT, Int.reduceGE, Int.reduceNe, true_and, and_true, true_or, or_true, false_or, or_false, and_self, or_self, if_true, if_false, reduceIte, not_true_eq_false, not_false_eq_true, Int.reduceEq, Int.reduceNe, Int.reduceLT, Int.reduceLE, Int.reduceAdd, Int.reduceSub, Int.reduceMul, Int.reduceNeg, Nat.reduceAdd, Nat.reduceLeDiff, Nat.reduceEqDiff, ne_eq, List.length_cons, List.length_nil, Nat.reduceSub, x_next hT hC, c, x_failH]
      exact this
  simp only [en_QU_read, e_QU_read_0, k_QU_read_0, e_QU_read_2, k_QU_read_2, en_TP_begin, e_TP_begin_0, k_TP_begin_0, rr, sh, Nat.reduceLT, Nat.reduceMul, Int.reduceToNat, Int.reduceGT, Int.reduceGE, Int.reduceNe, true_and, and_true, true_or, or_true, false_or, or_false, and_self, or_self, if_true, if_false, reduceIte, not_true_eq_false, not_false_eq_true, Int.reduceEq, Int.reduceNe, Int.reduceLT, Int.reduceLE, Int.reduceAdd, Int.reduceSub, Int.reduceMul, Int.reduceNeg, Nat.reduceAdd, Nat.reduceLeDiff, Nat.reduceEqDiff, ne_eq, List.length_cons, List.length_nil, Nat.reduceSub]
  rw [show hs (hs (hs (hs (hs V 2 2 0) 2 3 (-1)) 2 6 0) 2 7 (-1)) 38 2 0 = rq0 V from rfl]
  generalize rq0 V = X at *
  by_cases c3 : w ≤ 2
  · have c4 : ¬ (2 : Int) < (w : Int) := by omega
    simp only [e_QU_read_2, k_QU_read_2, xw, rr, sh, Nat.reduceLT, Nat.reduceMul, Int.reduceToNat, Int.reduceGT, Int.reduceGE, Int.reduceNe, true_and, and_true, true_or, or_true, false_or, or_false, and_self, or_self, if_true, if_false, reduceIte, not_true_eq_false, not_false_eq_true, Int.reduceEq, Int.reduceNe, Int.reduceLT, Int.reduceLE, Int.reduceAdd, Int.reduceSub, Int.reduceMul, Int.reduceNeg, Nat.reduceAdd, Nat.reduceLeDiff, Nat.reduceEqDiff, ne_eq, List.length_cons, List.length_nil, Nat.reduceSub, hs_app, false_and, and_false, c1, c2, c4, xp]
    refine hS c3 (d + 99) _ _ [] (by omega) P1 hp (fun kk pl z H' F q6 q7 u => ?_) (fun a2 j2 cs z H' F hC => ?_)
    · exact te H' F kk pl z q6 q7
    · exact tk H' F a2 j2 cs z hC
  · have c4 : (2 : Int) < (w : Int) := by omega
    simp only [e_QU_read_2, k_QU_read_2, e_QU_read_3, k_QU_read_3, xw, rr, sh, Nat.reduceLT, Nat.reduceMul, Int.reduceToNat, Int.reduceGT, Int.reduceGE, Int.reduceNe, true_and, and_true, true_or, or_true, false_or, or_false, and_self, or_self, if_true, if_false, reduceIte, not_true_eq_false, not_false_eq_true, Int.reduceEq, Int.reduceNe, Int.reduceLT, Int.reduceLE, Int.reduceAdd, Int.reduceSub, Int.reduceMul, Int.reduceNeg, Nat.reduceAdd, Nat.reduceLeDiff, Nat.reduceEqDiff, ne_eq, List.length_cons, List.length_nil, Nat.reduceSub, hs_app, false_and, and_false, c1, c2, c4, xp]
    refine hS2 c3 (d + 99) _ _ [] (by omega) P1 hp (fun kk pl z H' F q6 q7 u => ?_) (fun a2 j2 cs z H' F hC => ?_)
    · exact te H' F kk pl z q6 q7
    · exact tk H' F a2 j2 cs z hC
end QR1
