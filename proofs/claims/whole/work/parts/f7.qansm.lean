/-! QUESTIONS: the reference's answers -/
section QV8
variable {d : Nat} {V H : Hp} {Q : AV → Hp → Prop} {s : List Int} {i : Int} {cs : List Int} {w : Nat}
theorem KoM.fx {H' : Hp} (h : KoM H cs) (hF : Fx sSM H H') : KoM H' cs := ⟨(hF 71 88 rfl).trans h.1, fun k hk => (hF 136 k rfl).trans (h.2 k hk)⟩
set_option maxRecDepth 20000 in
theorem c_mloop (hM : Inm V) (h0 : 0 ≤ i) (h9 : i ≤ 9999) (hcl : cs.length ≤ 1600) : ∀ (es pre : List Int) (s : List Int) (H : Hp) (y : AV), cs = pre ++ es → (y = vu ∨ ∃ v, y = vi v) → Vw V H → KoM H cs → QSM H s → BdS s → Sfe V i es s →
    (∀ (H' : Hp) (y' : AV), (y' = vu ∨ ∃ v, y' = vi v) → Fx sSM H H' → QSM H' (qrun V i es s) → R (d + 6) MO_qTold (blk MO_qTold 8) [va 71, vi i, vi cs.length, y'] [] H' Q) → R (d + 6) MO_qTold (blk MO_qTold 1) [va 71, vi i, vi pre.length, y] [] H Q
  | [], pre, s, H, y, hc, hy, hH, hK, hS, hb, hs', hQ => by
    rw [List.append_nil] at hc
    subst hc
    have := hQ H y hy Fx.rf hS
    have u := hK.1
    rw [e_MO_qTold_1]
    simp only [k_MO_qTold_1, rr, sh, Nat.reduceLT, Nat.reduceMul, Int.reduceToNat, Int.reduceGT, Int.reduceGE, Int.reduceNe, true_and, and_true, true_or, or_true, false_or, or_false, and_self, or_self, if_true, if_false, reduceIte, not_true_eq_false, not_false_eq_true, Int.reduceEq, Int.reduceNe, Int.reduceLT, Int.reduceLE, Int.reduceAdd, Int.reduceSub, Int.reduceMul, Int.reduceNeg, Nat.reduceAdd, Nat.reduceLeDiff, Nat.reduceEqDiff, ne_eq, List.length_cons, List.length_nil, Nat.reduceSub, u, Int.le_refl]
    exact this
  | e :: es, pre, s, H, y, hc, hy, hH, hK, hS, hb, hs', hQ => by
    have lt : pre.length < cs.length := by rw [hc, List.length_append, List.length_cons]; omega
    have kw := w32_s (n := pre.length) (Nat.lt_of_lt_of_le lt (Nat.le_trans hcl (by decide)))
    have l1 : (pre ++ [e]).length = pre.length + 1 := len_s
    have hc2 : cs = (pre ++ [e]) ++ es := by rw [hc, List.append_assoc]; rfl
    have ih := fun (H1 : Hp) (F : Fx sSM H H1) (hS1 : QSM H1 (qst V i e s)) => c_mloop hM h0 h9 hcl es (pre ++ [e]) (qst V i e s) H1 (vi (rco e)) hc2 (Or.inr ⟨_, rfl⟩) (fx_vw hH F sSM_scr) (hK.fx F) hS1 (qst_bd hM.boat h0 h9 hs'.1.2.1 hb) hs'.2.2 (fun H' y' hy' F' hS' => hQ H' y' hy' (F.tr F') hS')
    rw [l1] at ih
    clear hQ
    refine c_toldM (d := d) (Q := Q) hM hH h0 h9 hy hcl lt hK (by rw [hc, preD]) hS hs'.1 hs'.2.1 hb (fun H1 F hS1 => ?_)
    have := ih H1 F hS1
    unfold tM7
    simp only [e_MO_qTold_7, k_MO_qTold_7, rr, sh, Nat.reduceLT, Nat.reduceMul, Int.reduceToNat, Int.reduceGT, Int.reduceGE, Int.reduceNe, true_and, and_true, true_or, or_true, false_or, or_false, and_self, or_self, if_true, if_false, reduceIte, not_true_eq_false, not_false_eq_true, Int.reduceEq, Int.reduceNe, Int.reduceLT, Int.reduceLE, Int.reduceAdd, Int.reduceSub, Int.reduceMul, Int.reduceNeg, Nat.reduceAdd, Nat.reduceLeDiff, Nat.reduceEqDiff, ne_eq, List.length_cons, List.length_nil, Nat.reduceSub, kw]
    exact this
set_option maxRecDepth 20000 in
theorem c_qTold (hM : Inm V) (hH : Vw V H) (h0 : 0 ≤ i) (h9 : i ≤ 9999) (hcl : cs.length ≤ 1600) {n : Nat} {b : Bool} (hn : n ≤ 40) (hw : WFq V cs n b) (hK : KoM H cs) (hQ : ∀ H', Fx sSM H H' → Q (vl (vQ V cs i)) H') : CC (d + 6) MO_qTold [va 71, vi i] H Q := by
  obtain ⟨hs', v, hv, bv, -⟩ := hw i h0 h9 [] (fun x hx => by cases hx) (by rw [List.length_nil]; omega)
  have ev : vQ V cs i = v := by unfold vQ; rw [hv]; rfl
  rw [ev] at hQ
  have F2 : Fx sSM H (hs H 71 94 0) := fx_popM
  have S2 : QSM (hs H 71 94 0) [] := ⟨hs_same, fun k hk => absurd hk (Nat.not_lt_zero k)⟩
  have := c_mloop (d := d) (Q := Q) hM h0 h9 hcl cs [] [] (hs H 71 94 0) vu rfl (Or.inl rfl) (fx_vw hH F2 sSM_scr) (hK.fx F2) S2 (fun x hx => by cases hx) hs' (fun H' y' hy' F' hS' => by
    rw [hv] at hS'
    have G := F2.tr F'
    have p93 : H' 71 93 = 138 := (fx_vw hH G sSM_scr 71 93 rfl).trans (hM.ptr (71, 93, 138) (by decide +kernel))
    have t : H' 138 0 = v := hS'.top.2
    have fin := hQ H' G
    rcases hy' with rfl | ⟨y0, rfl⟩
    all_goals
      simp only [e_MO_qTold_8, k_MO_qTold_8, rr, sh, Nat.reduceLT, Nat.reduceMul, Int.reduceToNat, Int.reduceGT, Int.reduceGE, Int.reduceNe, true_and, and_true, true_or, or_true, false_or, or_false, and_self, or_self, if_true, if_false, reduceIte, not_true_eq_false, not_false_eq_true, Int.reduceEq, Int.reduceNe, Int.reduceLT, Int.reduceLE, Int.reduceAdd, Int.reduceSub, Int.reduceMul, Int.reduceNeg, Nat.reduceAdd, Nat.reduceLeDiff, Nat.reduceEqDiff, ne_eq, List.length_cons, List.length_nil, Nat.reduceSub, p93, t]
      exact fin)
  simp only [en_MO_qTold, e_MO_qTold_0, k_MO_qTold_0, rr, sh, Nat.reduceLT, Nat.reduceMul, Int.reduceToNat, Int.reduceGT, Int.reduceGE, Int.reduceNe, true_and, and_true, true_or, or_true, false_or, or_false, and_self, or_self, if_true, if_false, reduceIte, not_true_eq_false, not_false_eq_true, Int.reduceEq, Int.reduceNe, Int.reduceLT, Int.reduceLE, Int.reduceAdd, Int.reduceSub, Int.reduceMul, Int.reduceNeg, Nat.reduceAdd, Nat.reduceLeDiff, Nat.reduceEqDiff, ne_eq, List.length_cons, List.length_nil, Nat.reduceSub]
  exact this
def s95 (a b : Int) : Bool := decide (a = 71) && (decide (b = 95) || decide (b = 96))
def tkQ (w : Nat) (nw a v i : Int) : Int := if w = 0 then (if v = 1 ∧ a = -1 then i else a) else if w = 1 then (if v = 1 then i else a) else if w = 2 then (if v = 1 then w64 (a + 1) else a) else if w = 3 then w64 (a + v) else if w = 4 then (if ¬ nw = 0 ∨ a < v then v else a) else (if ¬ nw = 0 ∨ v < a then v else a)
theorem f95 {a : Int} : Fx s95 H (hs (hs H 71 95 a) 71 96 0) ∧ hs (hs H 71 95 a) 71 96 0 71 95 = a ∧ hs (hs H 71 95 a) 71 96 0 71 96 = 0 := ⟨(Fx.rf.hs (c := 71) (j := 95) rfl).hs (c := 71) (j := 96) rfl, (hs2 (by decide)).trans hs_same, hs_same⟩
theorem f96 : Fx s95 H (hs H 71 96 0) ∧ hs H 71 96 0 71 95 = H 71 95 ∧ hs H 71 96 0 71 96 = 0 := ⟨Fx.rf.hs (c := 71) (j := 96) rfl, hs2 (by decide), hs_same⟩
set_option maxRecDepth 20000 in
theorem c_qTakes (h5 : w ≤ 5) {v : Int} (hQ : ∀ H', Fx s95 H H' → H' 71 95 = tkQ w (H 71 96) (H 71 95) v i → H' 71 96 = 0 → Q vu H') : CC d MO_qTakes [va 71, vi w, vl v, vi i] H Q := by
  have wr : ∀ a : Int, a = tkQ w (H 71 96) (H 71 95) v i → Q vu (hs (hs H 71 95 a) 71 96 0) := fun a e => hQ _ f95.1 (f95.2.1.trans e) f95.2.2
  have no : H 71 95 = tkQ w (H 71 96) (H 71 95) v i → Q vu (hs H 71 96 0) := fun e => hQ _ f96.1 (f96.2.1.trans e) f96.2.2
  clear hQ
  have cw : w = 0 ∨ w = 1 ∨ w = 2 ∨ w = 3 ∨ w = 4 ∨ w = 5 := by omega
  rcases cw with rfl | rfl | rfl | rfl | rfl | rfl
  · show CC d MO_qTakes [va 71, vi 0, vl v, vi i] H Q
    have wr : ∀ a : Int, a = (if v = 1 ∧ H 71 95 = -1 then i else H 71 95) → Q vu (hs (hs H 71 95 a) 71 96 0) := wr
    have no : H 71 95 = (if v = 1 ∧ H 71 95 = -1 then i else H 71 95) → Q vu (hs H 71 96 0) := no
    by_cases c1 : v = 1
    · by_cases c2 : H 71 95 = -1
      · rw [if_pos ⟨c1, c2⟩] at wr
        have := wr _ rfl
        simp only [en_MO_qTakes, e_MO_qTakes_0, k_MO_qTakes_0, e_MO_qTakes_1, k_MO_qTakes_1, e_MO_qTakes_2, k_MO_qTakes_2, e_MO_qTakes_3, k_MO_qTakes_3, e_MO_qTakes_4, k_MO_qTakes_4, e_MO_qTakes_5, k_MO_qTakes_5, e_MO_qTakes_6, k_MO_qTakes_6, e_MO_qTakes_7, k_MO_qTakes_7, e_MO_qTakes_8, k_MO_qTakes_8, e_MO_qTakes_9, k_MO_qTakes_9, e_MO_qTakes_10, k_MO_qTakes_10, rr, sh, Nat.reduceLT, Nat.reduceMul, Int.reduceToNat, Int.reduceGT, Int.reduceGE, Int.reduceNe, true_and, and_true, true_or, or_true, false_or, or_false, and_self, or_self, if_true, if_false, reduceIte, not_true_eq_false, not_false_eq_true, Int.reduceEq, Int.reduceNe, Int.reduceLT, Int.reduceLE, Int.reduceAdd, Int.reduceSub, Int.reduceMul, Int.reduceNeg, Nat.reduceAdd, Nat.reduceLeDiff, Nat.reduceEqDiff, ne_eq, List.length_cons, List.length_nil, Nat.reduceSub, c3_eq, c1, c2]
        exact this
      · rw [if_neg (fun z => c2 z.2)] at no
        have := no rfl
        simp only [en_MO_qTakes, e_MO_qTakes_0, k_MO_qTakes_0, e_MO_qTakes_1, k_MO_qTakes_1, e_MO_qTakes_2, k_MO_qTakes_2, e_MO_qTakes_3, k_MO_qTakes_3, e_MO_qTakes_4, k_MO_qTakes_4, e_MO_qTakes_5, k_MO_qTakes_5, e_MO_qTakes_6, k_MO_qTakes_6, e_MO_qTakes_7, k_MO_qTakes_7, e_MO_qTakes_8, k_MO_qTakes_8, e_MO_qTakes_9, k_MO_qTakes_9, e_MO_qTakes_10, k_MO_qTakes_10, rr, sh, Nat.reduceLT, Nat.reduceMul, Int.reduceToNat, Int.reduceGT, Int.reduceGE, Int.reduceNe, true_and, and_true, true_or, or_true, false_or, or_false, and_self, or_self, if_true, if_false, reduceIte, not_true_eq_false, not_false_eq_true, Int.reduceEq, Int.reduceNe, Int.reduceLT, Int.reduceLE, Int.reduceAdd, Int.reduceSub, Int.reduceMul, Int.reduceNeg, Nat.reduceAdd, Nat.reduceLeDiff, Nat.reduceEqDiff, ne_eq, List.length_cons, List.length_nil, Nat.reduceSub, c3_eq, c1, c2]
        exact this
    · rw [if_neg (fun z => c1 z.1)] at no
      have := no rfl
      simp only [en_MO_qTakes, e_MO_qTakes_0, k_MO_qTakes_0, e_MO_qTakes_1, k_MO_qTakes_1, e_MO_qTakes_2, k_MO_qTakes_2, e_MO_qTakes_3, k_MO_qTakes_3, e_MO_qTakes_4, k_MO_qTakes_4, e_MO_qTakes_5, k_MO_qTakes_5, e_MO_qTakes_6, k_MO_qTakes_6, e_MO_qTakes_7, k_MO_qTakes_7, e_MO_qTakes_8, k_MO_qTakes_8, e_MO_qTakes_9, k_MO_qTakes_9, e_MO_qTakes_10, k_MO_qTakes_10, rr, sh, Nat.reduceLT, Nat.reduceMul, Int.reduceToNat, Int.reduceGT, Int.reduceGE, Int.reduceNe, true_and, and_true, true_or, or_true, false_or, or_false, and_self, or_self, if_true, if_false, reduceIte, not_true_eq_false, not_false_eq_true, Int.reduceEq, Int.reduceNe, Int.reduceLT, Int.reduceLE, Int.reduceAdd, Int.reduceSub, Int.reduceMul, Int.reduceNeg, Nat.reduceAdd, Nat.reduceLeDiff, Nat.reduceEqDiff, ne_eq, List.length_cons, List.length_nil, Nat.reduceSub, c3_eq, c1]
      exact this
  · show CC d MO_qTakes [va 71, vi 1, vl v, vi i] H Q
    have wr : ∀ a : Int, a = (if v = 1 then i else H 71 95) → Q vu (hs (hs H 71 95 a) 71 96 0) := wr
    have no : H 71 95 = (if v = 1 then i else H 71 95) → Q vu (hs H 71 96 0) := no
    by_cases c1 : v = 1
    · rw [if_pos c1] at wr
      have := wr _ rfl
      simp only [en_MO_qTakes, e_MO_qTakes_0, k_MO_qTakes_0, e_MO_qTakes_1, k_MO_qTakes_1, e_MO_qTakes_2, k_MO_qTakes_2, e_MO_qTakes_3, k_MO_qTakes_3, e_MO_qTakes_4, k_MO_qTakes_4, e_MO_qTakes_5, k_MO_qTakes_5, e_MO_qTakes_6, k_MO_qTakes_6, e_MO_qTakes_7, k_MO_qTakes_7, e_MO_qTakes_8, k_MO_qTakes_8, e_MO_qTakes_9, k_MO_qTakes_9, e_MO_qTakes_10, k_MO_qTakes_10, rr, sh, Nat.reduceLT, Nat.reduceMul, Int.reduceToNat, Int.reduceGT, Int.reduceGE, Int.reduceNe, true_and, and_true, true_or, or_true, false_or, or_false, and_self, or_self, if_true, if_false, reduceIte, not_true_eq_false, not_false_eq_true, Int.reduceEq, Int.reduceNe, Int.reduceLT, Int.reduceLE, Int.reduceAdd, Int.reduceSub, Int.reduceMul, Int.reduceNeg, Nat.reduceAdd, Nat.reduceLeDiff, Nat.reduceEqDiff, ne_eq, List.length_cons, List.length_nil, Nat.reduceSub, c3_eq, c1]
      exact this
    · rw [if_neg c1] at no
      have := no rfl
      simp only [en_MO_qTakes, e_MO_qTakes_0, k_MO_qTakes_0, e_MO_qTakes_1, k_MO_qTakes_1, e_MO_qTakes_2, k_MO_qTakes_2, e_MO_qTakes_3, k_MO_qTakes_3, e_MO_qTakes_4, k_MO_qTakes_4, e_MO_qTakes_5, k_MO_qTakes_5, e_MO_qTakes_6, k_MO_qTakes_6, e_MO_qTakes_7, k_MO_qTakes_7, e_MO_qTakes_8, k_MO_qTakes_8, e_MO_qTakes_9, k_MO_qTakes_9, e_MO_qTakes_10, k_MO_qTakes_10, rr, sh, Nat.reduceLT, Nat.reduceMul, Int.reduceToNat, Int.reduceGT, Int.reduceGE, Int.reduceNe, true_and, and_true, true_or, or_true, false_or, or_false, and_self, or_self, if_true, if_false, reduceIte, not_true_eq_false, not_false_eq_true, Int.reduceEq, Int.reduceNe, Int.reduceLT, Int.reduceLE, Int.reduceAdd, Int.reduceSub, Int.reduceMul, Int.reduceNeg, Nat.reduceAdd, Nat.reduceLeDiff, Nat.reduceEqDiff, ne_eq, List.length_cons, List.length_nil, Nat.reduceSub, c3_eq, c1]
      exact this
  · show CC d MO_qTakes [va 71, vi 2, vl v, vi i] H Q
    have wr : ∀ a : Int, a = (if v = 1 then w64 (H 71 95 + 1) else H 71 95) → Q vu (hs (hs H 71 95 a) 71 96 0) := wr
    have no : H 71 95 = (if v = 1 then w64 (H 71 95 + 1) else H 71 95) → Q vu (hs H 71 96 0) := no
    by_cases c1 : v = 1
    · rw [if_pos c1] at wr
      have := wr _ rfl
      simp only [en_MO_qTakes, e_MO_qTakes_0, k_MO_qTakes_0, e_MO_qTakes_1, k_MO_qTakes_1, e_MO_qTakes_2, k_MO_qTakes_2, e_MO_qTakes_3, k_MO_qTakes_3, e_MO_qTakes_4, k_MO_qTakes_4, e_MO_qTakes_5, k_MO_qTakes_5, e_MO_qTakes_6, k_MO_qTakes_6, e_MO_qTakes_7, k_MO_qTakes_7, e_MO_qTakes_8, k_MO_qTakes_8, e_MO_qTakes_9, k_MO_qTakes_9, e_MO_qTakes_10, k_MO_qTakes_10, rr, sh, Nat.reduceLT, Nat.reduceMul, Int.reduceToNat, Int.reduceGT, Int.reduceGE, Int.reduceNe, true_and, and_true, true_or, or_true, false_or, or_false, and_self, or_self, if_true, if_false, reduceIte, not_true_eq_false, not_false_eq_true, Int.reduceEq, Int.reduceNe, Int.reduceLT, Int.reduceLE, Int.reduceAdd, Int.reduceSub, Int.reduceMul, Int.reduceNeg, Nat.reduceAdd, Nat.reduceLeDiff, Nat.reduceEqDiff, ne_eq, List.length_cons, List.length_nil, Nat.reduceSub, c3_eq, c1]
      exact this
    · rw [if_neg c1] at no
      have := no rfl
      simp only [en_MO_qTakes, e_MO_qTakes_0, k_MO_qTakes_0, e_MO_qTakes_1, k_MO_qTakes_1, e_MO_qTakes_2, k_MO_qTakes_2, e_MO_qTakes_3, k_MO_qTakes_3, e_MO_qTakes_4, k_MO_qTakes_4, e_MO_qTakes_5, k_MO_qTakes_5, e_MO_qTakes_6, k_MO_qTakes_6, e_MO_qTakes_7, k_MO_qTakes_7, e_MO_qTakes_8, k_MO_qTakes_8, e_MO_qTakes_9, k_MO_qTakes_9, e_MO_qTakes_10, k_MO_qTakes_10, rr, sh, Nat.reduceLT, Nat.reduceMul, Int.reduceToNat, Int.reduceGT, Int.reduceGE, Int.reduceNe, true_and, and_true, true_or, or_true, false_or, or_false, and_self, or_self, if_true, if_false, reduceIte, not_true_eq_false, not_false_eq_true, Int.reduceEq, Int.reduceNe, Int.reduceLT, Int.reduceLE, Int.reduceAdd, Int.reduceSub, Int.reduceMul, Int.reduceNeg, Nat.reduceAdd, Nat.reduceLeDiff, Nat.reduceEqDiff, ne_eq, List.length_cons, List.length_nil, Nat.reduceSub, c3_eq, c1]
      exact this
  · show CC d MO_qTakes [va 71, vi 3, vl v, vi i] H Q
    have := wr (w64 (H 71 95 + v)) rfl
    simp only [en_MO_qTakes, e_MO_qTakes_0, k_MO_qTakes_0, e_MO_qTakes_1, k_MO_qTakes_1, e_MO_qTakes_2, k_MO_qTakes_2, e_MO_qTakes_3, k_MO_qTakes_3, e_MO_qTakes_4, k_MO_qTakes_4, e_MO_qTakes_5, k_MO_qTakes_5, e_MO_qTakes_6, k_MO_qTakes_6, e_MO_qTakes_7, k_MO_qTakes_7, e_MO_qTakes_8, k_MO_qTakes_8, e_MO_qTakes_9, k_MO_qTakes_9, e_MO_qTakes_10, k_MO_qTakes_10, rr, sh, Nat.reduceLT, Nat.reduceMul, Int.reduceToNat, Int.reduceGT, Int.reduceGE, Int.reduceNe, true_and, and_true, true_or, or_true, false_or, or_false, and_self, or_self, if_true, if_false, reduceIte, not_true_eq_false, not_false_eq_true, Int.reduceEq, Int.reduceNe, Int.reduceLT, Int.reduceLE, Int.reduceAdd, Int.reduceSub, Int.reduceMul, Int.reduceNeg, Nat.reduceAdd, Nat.reduceLeDiff, Nat.reduceEqDiff, ne_eq, List.length_cons, List.length_nil, Nat.reduceSub]
    exact this
  · show CC d MO_qTakes [va 71, vi 4, vl v, vi i] H Q
    have wr : ∀ a : Int, a = (if ¬ H 71 96 = 0 ∨ H 71 95 < v then v else H 71 95) → Q vu (hs (hs H 71 95 a) 71 96 0) := wr
    have no : H 71 95 = (if ¬ H 71 96 = 0 ∨ H 71 95 < v then v else H 71 95) → Q vu (hs H 71 96 0) := no
    by_cases c1 : H 71 96 = 0
    · by_cases c2 : v ≤ H 71 95
      · rw [if_neg (fun z => z.elim (fun y => y c1) (fun y => absurd y (Int.not_lt.mpr c2)))] at no
        have := no rfl
        simp only [en_MO_qTakes, e_MO_qTakes_0, k_MO_qTakes_0, e_MO_qTakes_1, k_MO_qTakes_1, e_MO_qTakes_2, k_MO_qTakes_2, e_MO_qTakes_3, k_MO_qTakes_3, e_MO_qTakes_4, k_MO_qTakes_4, e_MO_qTakes_5, k_MO_qTakes_5, e_MO_qTakes_6, k_MO_qTakes_6, e_MO_qTakes_7, k_MO_qTakes_7, e_MO_qTakes_8, k_MO_qTakes_8, e_MO_qTakes_9, k_MO_qTakes_9, e_MO_qTakes_10, k_MO_qTakes_10, rr, sh, Nat.reduceLT, Nat.reduceMul, Int.reduceToNat, Int.reduceGT, Int.reduceGE, Int.reduceNe, true_and, and_true, true_or, or_true, false_or, or_false, and_self, or_self, if_true, if_false, reduceIte, not_true_eq_false, not_false_eq_true, Int.reduceEq, Int.reduceNe, Int.reduceLT, Int.reduceLE, Int.reduceAdd, Int.reduceSub, Int.reduceMul, Int.reduceNeg, Nat.reduceAdd, Nat.reduceLeDiff, Nat.reduceEqDiff, ne_eq, List.length_cons, List.length_nil, Nat.reduceSub, c3_le, c1, c2]
        exact this
      · rw [if_pos (Or.inr (Int.not_le.mp c2))] at wr
        have := wr _ rfl
        simp only [en_MO_qTakes, e_MO_qTakes_0, k_MO_qTakes_0, e_MO_qTakes_1, k_MO_qTakes_1, e_MO_qTakes_2, k_MO_qTakes_2, e_MO_qTakes_3, k_MO_qTakes_3, e_MO_qTakes_4, k_MO_qTakes_4, e_MO_qTakes_5, k_MO_qTakes_5, e_MO_qTakes_6, k_MO_qTakes_6, e_MO_qTakes_7, k_MO_qTakes_7, e_MO_qTakes_8, k_MO_qTakes_8, e_MO_qTakes_9, k_MO_qTakes_9, e_MO_qTakes_10, k_MO_qTakes_10, rr, sh, Nat.reduceLT, Nat.reduceMul, Int.reduceToNat, Int.reduceGT, Int.reduceGE, Int.reduceNe, true_and, and_true, true_or, or_true, false_or, or_false, and_self, or_self, if_true, if_false, reduceIte, not_true_eq_false, not_false_eq_true, Int.reduceEq, Int.reduceNe, Int.reduceLT, Int.reduceLE, Int.reduceAdd, Int.reduceSub, Int.reduceMul, Int.reduceNeg, Nat.reduceAdd, Nat.reduceLeDiff, Nat.reduceEqDiff, ne_eq, List.length_cons, List.length_nil, Nat.reduceSub, c3_le, c1, c2]
        exact this
    · rw [if_pos (Or.inl c1)] at wr
      have := wr _ rfl
      simp only [en_MO_qTakes, e_MO_qTakes_0, k_MO_qTakes_0, e_MO_qTakes_1, k_MO_qTakes_1, e_MO_qTakes_2, k_MO_qTakes_2, e_MO_qTakes_3, k_MO_qTakes_3, e_MO_qTakes_4, k_MO_qTakes_4, e_MO_qTakes_5, k_MO_qTakes_5, e_MO_qTakes_6, k_MO_qTakes_6, e_MO_qTakes_7, k_MO_qTakes_7, e_MO_qTakes_8, k_MO_qTakes_8, e_MO_qTakes_9, k_MO_qTakes_9, e_MO_qTakes_10, k_MO_qTakes_10, rr, sh, Nat.reduceLT, Nat.reduceMul, Int.reduceToNat, Int.reduceGT, Int.reduceGE, Int.reduceNe, true_and, and_true, true_or, or_true, false_or, or_false, and_self, or_self, if_true, if_false, reduceIte, not_true_eq_false, not_false_eq_true, Int.reduceEq, Int.reduceNe, Int.reduceLT, Int.reduceLE, Int.reduceAdd, Int.reduceSub, Int.reduceMul, Int.reduceNeg, Nat.reduceAdd, Nat.reduceLeDiff, Nat.reduceEqDiff, ne_eq, List.length_cons, List.length_nil, Nat.reduceSub, c1]
      exact this
  · show CC d MO_qTakes [va 71, vi 5, vl v, vi i] H Q
    have wr : ∀ a : Int, a = (if ¬ H 71 96 = 0 ∨ v < H 71 95 then v else H 71 95) → Q vu (hs (hs H 71 95 a) 71 96 0) := wr
    have no : H 71 95 = (if ¬ H 71 96 = 0 ∨ v < H 71 95 then v else H 71 95) → Q vu (hs H 71 96 0) := no
    by_cases c1 : H 71 96 = 0
    · by_cases c2 : H 71 95 ≤ v
      · rw [if_neg (fun z => z.elim (fun y => y c1) (fun y => absurd y (Int.not_lt.mpr c2)))] at no
        have := no rfl
        simp only [en_MO_qTakes, e_MO_qTakes_0, k_MO_qTakes_0, e_MO_qTakes_1, k_MO_qTakes_1, e_MO_qTakes_2, k_MO_qTakes_2, e_MO_qTakes_3, k_MO_qTakes_3, e_MO_qTakes_4, k_MO_qTakes_4, e_MO_qTakes_5, k_MO_qTakes_5, e_MO_qTakes_6, k_MO_qTakes_6, e_MO_qTakes_7, k_MO_qTakes_7, e_MO_qTakes_8, k_MO_qTakes_8, e_MO_qTakes_9, k_MO_qTakes_9, e_MO_qTakes_10, k_MO_qTakes_10, rr, sh, Nat.reduceLT, Nat.reduceMul, Int.reduceToNat, Int.reduceGT, Int.reduceGE, Int.reduceNe, true_and, and_true, true_or, or_true, false_or, or_false, and_self, or_self, if_true, if_false, reduceIte, not_true_eq_false, not_false_eq_true, Int.reduceEq, Int.reduceNe, Int.reduceLT, Int.reduceLE, Int.reduceAdd, Int.reduceSub, Int.reduceMul, Int.reduceNeg, Nat.reduceAdd, Nat.reduceLeDiff, Nat.reduceEqDiff, ne_eq, List.length_cons, List.length_nil, Nat.reduceSub, c3_ge, c1, c2]
        exact this
      · rw [if_pos (Or.inr (Int.not_le.mp c2))] at wr
        have := wr _ rfl
        simp only [en_MO_qTakes, e_MO_qTakes_0, k_MO_qTakes_0, e_MO_qTakes_1, k_MO_qTakes_1, e_MO_qTakes_2, k_MO_qTakes_2, e_MO_qTakes_3, k_MO_qTakes_3, e_MO_qTakes_4, k_MO_qTakes_4, e_MO_qTakes_5, k_MO_qTakes_5, e_MO_qTakes_6, k_MO_qTakes_6, e_MO_qTakes_7, k_MO_qTakes_7, e_MO_qTakes_8, k_MO_qTakes_8, e_MO_qTakes_9, k_MO_qTakes_9, e_MO_qTakes_10, k_MO_qTakes_10, rr, sh, Nat.reduceLT, Nat.reduceMul, Int.reduceToNat, Int.reduceGT, Int.reduceGE, Int.reduceNe, true_and, and_true, true_or, or_true, false_or, or_false, and_self, or_self, if_true, if_false, reduceIte, not_true_eq_false, not_false_eq_true, Int.reduceEq, Int.reduceNe, Int.reduceLT, Int.reduceLE, Int.reduceAdd, Int.reduceSub, Int.reduceMul, Int.reduceNeg, Nat.reduceAdd, Nat.reduceLeDiff, Nat.reduceEqDiff, ne_eq, List.length_cons, List.length_nil, Nat.reduceSub, c3_ge, c1, c2]
        exact this
    · rw [if_pos (Or.inl c1)] at wr
      have := wr _ rfl
      simp only [en_MO_qTakes, e_MO_qTakes_0, k_MO_qTakes_0, e_MO_qTakes_1, k_MO_qTakes_1, e_MO_qTakes_2, k_MO_qTakes_2, e_MO_qTakes_3, k_MO_qTakes_3, e_MO_qTakes_4, k_MO_qTakes_4, e_MO_qTakes_5, k_MO_qTakes_5, e_MO_qTakes_6, k_MO_qTakes_6, e_MO_qTakes_7, k_MO_qTakes_7, e_MO_qTakes_8, k_MO_qTakes_8, e_MO_qTakes_9, k_MO_qTakes_9, e_MO_qTakes_10, k_MO_qTakes_10, rr, sh, Nat.reduceLT, Nat.reduceMul, Int.reduceToNat, Int.reduceGT, Int.reduceGE, Int.reduceNe, true_and, and_true, true_or, or_true, false_or, or_false, and_self, or_self, if_true, if_false, reduceIte, not_true_eq_false, not_false_eq_true, Int.reduceEq, Int.reduceNe, Int.reduceLT, Int.reduceLE, Int.reduceAdd, Int.reduceSub, Int.reduceMul, Int.reduceNeg, Nat.reduceAdd, Nat.reduceLeDiff, Nat.reduceEqDiff, ne_eq, List.length_cons, List.length_nil, Nat.reduceSub, c1]
      exact this
/-- the reference's answer so far -/
def qA (V : Hp) (w : Nat) (v : Int → Int) (k : Nat) : Int := if w = 0 then aF v (V 71 47) k else if w = 1 then aL v (V 71 47) k else if w = 2 then aO v (V 71 47) k else if w = 3 then aT v (V 71 47) k else if w = 4 then (if k = 0 then 0 else aX v (V 71 47) k) else (if k = 0 then 0 else aN v (V 71 47) k)
theorem qA_ans (h : 1 ≤ nTq V) {v : Int → Int} : qA V w v (nTq V) = ansQ V w v := by
  have n0 : ¬ nTq V = 0 := by omega
  unfold qA ansQ
  rw [if_neg n0, if_neg n0]
theorem qA_step {v : Int → Int} {k : Nat} (hk : k ≤ 200) (h5 : w ≤ 5) (hb : BdQ (v (V 71 47 + k))) (hbl : w ≤ 2 → isBl (v (V 71 47 + k))) (hT : -(1000000 * (k : Int)) ≤ aT v (V 71 47) k ∧ aT v (V 71 47) k ≤ 1000000 * (k : Int)) : tkQ w (if k = 0 then 1 else 0) (qA V w v k) (v (V 71 47 + k)) (V 71 47 + k) = qA V w v (k + 1) := by
  have cw : w = 0 ∨ w = 1 ∨ w = 2 ∨ w = 3 ∨ w = 4 ∨ w = 5 := by omega
  rcases cw with rfl | rfl | rfl | rfl | rfl | rfl
  · have bl : v (V 71 47 + k) = 0 ∨ v (V 71 47 + k) = 1 := hbl (by decide)
    show (if v (V 71 47 + k) = 1 ∧ aF v (V 71 47) k = -1 then V 71 47 + k else aF v (V 71 47) k) = (if v (V 71 47 + k) ≠ 0 ∧ aF v (V 71 47) k = -1 then V 71 47 + k else aF v (V 71 47) k)
    rcases bl with e | e
    · rw [e, if_neg (fun z => absurd z.1 (by decide)), if_neg (fun z => z.1 rfl)]
    · rw [e]
      by_cases c : aF v (V 71 47) k = -1
      · rw [if_pos ⟨rfl, c⟩, if_pos ⟨by decide, c⟩]
      · rw [if_neg (fun z => c z.2), if_neg (fun z => c z.2)]
  · have bl : v (V 71 47 + k) = 0 ∨ v (V 71 47 + k) = 1 := hbl (by decide)
    show (if v (V 71 47 + k) = 1 then V 71 47 + k else aL v (V 71 47) k) = (if v (V 71 47 + k) ≠ 0 then V 71 47 + k else aL v (V 71 47) k)
    rcases bl with e | e
    · rw [e, if_neg (by decide), if_neg (fun z => z rfl)]
    · rw [e, if_pos rfl, if_pos (by decide)]
  · have bl : v (V 71 47 + k) = 0 ∨ v (V 71 47 + k) = 1 := hbl (by decide)
    show (if v (V 71 47 + k) = 1 then w64 (aO v (V 71 47) k + 1) else aO v (V 71 47) k) = (if v (V 71 47 + k) ≠ 0 then aO v (V 71 47) k + 1 else aO v (V 71 47) k)
    have ob := aO_bd (v := v) (t := V 71 47) k
    have ow : w64 (aO v (V 71 47) k + 1) = aO v (V 71 47) k + 1 := by
      generalize aO v (V 71 47) k = z at ob ⊢
      clear hT hb bl
      exact w64_q (by omega)
    rcases bl with e | e
    · rw [e, if_neg (by decide), if_neg (fun z => z rfl)]
    · rw [e, if_pos rfl, if_pos (by decide), ow]
  · show w64 (aT v (V 71 47) k + v (V 71 47 + k)) = aT v (V 71 47) k + v (V 71 47 + k)
    clear hbl
    unfold BdQ at hb
    generalize aT v (V 71 47) k = z at hT ⊢
    generalize v (V 71 47 + k) = u at hb ⊢
    exact w64_q (by omega)
  · show (if ¬ (if k = 0 then (1 : Int) else 0) = 0 ∨ (if k = 0 then 0 else aX v (V 71 47) k) < v (V 71 47 + k) then v (V 71 47 + k) else (if k = 0 then 0 else aX v (V 71 47) k)) = max (aX v (V 71 47) k) (v (V 71 47 + k))
    by_cases c : k = 0
    · subst c
      rw [if_pos rfl, if_pos (Or.inl (by decide))]
      show _ = max (-1000000) _
      unfold BdQ at hb
      omega
    · rw [if_neg c, if_neg c]
      clear hT hbl
      by_cases c2 : aX v (V 71 47) k < v (V 71 47 + k)
      · rw [if_pos (Or.inr c2)]; omega
      · rw [if_neg (fun z => z.elim (fun y => y rfl) c2)]; omega
  · show (if ¬ (if k = 0 then (1 : Int) else 0) = 0 ∨ v (V 71 47 + k) < (if k = 0 then 0 else aN v (V 71 47) k) then v (V 71 47 + k) else (if k = 0 then 0 else aN v (V 71 47) k)) = min (aN v (V 71 47) k) (v (V 71 47 + k))
    by_cases c : k = 0
    · subst c
      rw [if_pos rfl, if_pos (Or.inl (by decide))]
      show _ = min 1000000 _
      unfold BdQ at hb
      omega
    · rw [if_neg c, if_neg c]
      clear hT hbl
      by_cases c2 : v (V 71 47 + k) < aN v (V 71 47) k
      · rw [if_pos (Or.inr c2)]; omega
      · rw [if_neg (fun z => z.elim (fun y => y rfl) c2)]; omega
end QV8
