/-! THE BOAT'S TEXT: a name told, both sides -/
section PG
variable {d : Nat} {V P H : Hp} {p : Int} {Q : AV → Hp → Prop}
theorem wr_lt {a : Nat} {j : Int} (h : ltH V a j = true) : wrI V a j OW = plI V (skE V a) (enE V a) OW 0 := by unfold wrI; rw [if_pos h]
theorem CRd.fx {a b : Nat} {j i : Int} (h : CRd V H a j) {H' : Hp} (hF : Fx (sCX p) H H') (hp : p = 5 ∨ p = 25) (h2 : H' 2 2 = b) (h3 : H' 2 3 = i) (h6 : H' 2 6 = 0) (h7 : H' 2 7 = -1) (hb : b ≤ tpN V) : CRd V H' b i := by
  have z : ∀ b : Int, (b = 0 ∨ b = 1) → sCX p 2 b = false := fun b hb => by
    unfold sCX
    rw [sPX_o (by omega), Bool.or_false]
    rcases hb with rfl | rfl <;> rfl
  have z3 : ∀ b : Int, sCX p 3 b = false := fun b => by
    unfold sCX
    rw [sPX_o (by omega), Bool.or_false]
    rfl
  exact ⟨⟨(hF 2 0 (z 0 (Or.inl rfl))).trans h.1.1, (hF 2 1 (z 1 (Or.inr rfl))).trans h.1.2.1, (hF.cell 3 z3).trans h.1.2.2⟩, h2, h3, h6, h7, hb⟩
/-- the class's letters of the rower told now, n of them written -/
def LtW (V H X : Hp) (p : Int) (a r n : Nat) : Prop := Fx (sPX p) H X ∧ (∀ c : Int, c ≠ p + 4 → X c = H c) ∧ ∀ i : Nat, i < 72 → X (p + 4) i = if 6 * r ≤ i ∧ i < 6 * r + n then bz V (skE V a + (i - 6 * r)) - 96 else H (p + 4) i
set_option maxRecDepth 20000 in
theorem c_letters (hp : p = 5 ∨ p = 25) (hP : Ptr H) (hT : TapeR V) {a : Nat} {j : Int} (hC : CRd V H (skE V a) j) (hn : a ≤ tpN V) (hB : TxB P) (h6 : H p 6 = rTx P) (hr : rTx P < 12) (hl : enE V a - skE V a ≤ 6)
    (hQ : ∀ X, LtW V H X p a (rTx P) (enE V a - skE V a) → R (d + 3) BT_nameTold (blk BT_nameTold 8) [va 2, va p, vi (enE V a), vi (skE V a), vi ((6 * rTx P : Nat) : Int), vi ((enE V a - skE V a : Nat) : Int)] [] X Q) : R (d + 3) BT_nameTold (blk BT_nameTold 7) [va 2, va p, vi (enE V a), vi (skE V a), vi ((6 * rTx P : Nat) : Int), vi 0] [] H Q := by
  have n16 := tpN_le hT
  have e := enE_rng hn
  obtain ⟨x1, -, -, -, g4, -⟩ := pp_f hp hP
  generalize hN : enE V a - skE V a = n at *
  refine up_nat (P := fun k => ∀ X, LtW V H X p a (rTx P) k → R (d + 3) BT_nameTold (blk BT_nameTold 7) [va 2, va p, vi (enE V a), vi (skE V a), vi ((6 * rTx P : Nat) : Int), vi k] [] X Q) (n := n) ?_ ?_ 0 (Nat.zero_le n) H ⟨Fx.rf, fun _ _ => rfl, fun i hi => by rw [if_neg (by omega)]⟩
  · intro X hX
    have w1 : w32 ((enE V a : Int) - skE V a) = (n : Nat) := by rw [w_sub e.2.2 (Nat.lt_of_le_of_lt (Nat.le_trans e.2.1 n16) (by decide)), hN]
    have := hQ X hX
    rw [e_BT_nameTold_7]
    simp only [k_BT_nameTold_7, rr, sh, Nat.reduceLT, Nat.reduceMul, Int.reduceToNat, Int.reduceGT, Int.reduceGE, Int.reduceNe, true_and, and_true, true_or, or_true, false_or, or_false, and_self, or_self, if_true, if_false, reduceIte, not_true_eq_false, not_false_eq_true, Int.reduceEq, Int.reduceNe, Int.reduceLT, Int.reduceLE, Int.reduceAdd, Int.reduceSub, Int.reduceMul, Int.reduceNeg, Nat.reduceAdd, Nat.reduceLeDiff, Nat.reduceEqDiff, ne_eq, List.length_cons, List.length_nil, Nat.reduceSub, w1, Int.le_refl]
    exact this
  · intro k hk ih X hX
    have c1 : ¬ (n : Int) ≤ (k : Int) := il_n hk
    have b2 : 6 * rTx P + k < 72 := by clear ih hQ; omega
    have c2 : ¬ (72 : Int) ≤ ((6 * rTx P + k : Nat) : Int) := il_n b2
    have j2 : 0 ≤ ((6 * rTx P + k : Nat) : Int) ∧ ((6 * rTx P + k : Nat) : Int) < 72 := ix_n b2
    have t2 : TpV V X := ⟨by rw [hX.2.1 2 (by omega)]; exact hC.1.1, by rw [hX.2.1 2 (by omega)]; exact hC.1.2.1, by rw [hX.2.1 3 (by omega)]; exact hC.1.2.2⟩
    have gX : X p 7 = p + 4 := by rw [hX.2.1 p (by omega)]; exact g4.1
    have ih' := ih (hs X (p + 4) ((6 * rTx P + k : Nat) : Int) (bz V (skE V a + k) - 96)) ⟨hX.1.hs (sPX_a (by decide)), fun c hc => by rw [hs_ne hc]; exact hX.2.1 c hc, fun i hi => by
      rw [hs_at, at_z]
      by_cases q : i = 6 * rTx P + k
      · rw [if_pos q, if_pos (by omega), q, Nat.add_sub_cancel_left]
      · rw [if_neg q, hX.2.2 i hi]
        by_cases q2 : 6 * rTx P ≤ i ∧ i < 6 * rTx P + k
        · rw [if_pos q2, if_pos (by omega)]
        · rw [if_neg q2, if_neg (by omega)]⟩
    clear ih
    have k9 : k < 2147483647 := Nat.lt_of_lt_of_le hk (Nat.le_trans hl (by decide))
    have e9 : enE V a < 2147483648 := Nat.lt_of_le_of_lt (Nat.le_trans e.2.1 n16) (by decide)
    have s9 : skE V a + k < 2147483648 := Nat.lt_of_le_of_lt (Nat.add_le_add (Nat.le_trans e.2.2 (Nat.le_trans e.2.1 n16)) (Nat.le_trans (Nat.le_of_lt hk) hl)) (by decide)
    have kw := w32_s (n := k) k9
    have w1 : w32 ((enE V a : Int) - skE V a) = (n : Nat) := by rw [w_sub e.2.2 e9, hN]
    have w2 : w32 (((6 * rTx P : Nat) : Int) + k) = ((6 * rTx P + k : Nat) : Int) := w_add (Nat.lt_trans b2 (by decide))
    have w3 : w32 ((skE V a : Int) + k) = ((skE V a + k : Nat) : Int) := w_add s9
    have w4 := w_let (bz_rng hT (skE V a + k))
    rw [e_BT_nameTold_7]
    simp only [k_BT_nameTold_7, rr, sh, Nat.reduceLT, Nat.reduceMul, Int.reduceToNat, Int.reduceGT, Int.reduceGE, Int.reduceNe, true_and, and_true, true_or, or_true, false_or, or_false, and_self, or_self, if_true, if_false, reduceIte, not_true_eq_false, not_false_eq_true, Int.reduceEq, Int.reduceNe, Int.reduceLT, Int.reduceLE, Int.reduceAdd, Int.reduceSub, Int.reduceMul, Int.reduceNeg, Nat.reduceAdd, Nat.reduceLeDiff, Nat.reduceEqDiff, ne_eq, List.length_cons, List.length_nil, Nat.reduceSub, w1, c1, w2, x1, gX, g4, c2, w3, q_byteZ hT t2, w4, j2, kw]
    exact ih'
set_option maxRecDepth 20000 in
theorem c_nameTold (hp : p = 5 ∨ p = 25) (hP : Ptr H) (hT : TapeR V) {a : Nat} {j : Int} (hC : CRd V H a j) (hB : TxB P) (hL : PlT P H p) (hr : rTx P < 12)
    (he : ∀ kk pl, nameO V a j P = .error (kk, pl) → ∀ H', Fx (sCX p) H H' → H' 2 6 = kk → H' 2 7 = pl → Q (vi 0) H')
    (ho : ∀ e x, nameO V a j P = .ok (e, x) → ∀ H', Fx (sCX p) H H' → CRd V H' e e → PlN (lrN V a) P H' p → NmT x (lrN V a) → Q (vi 1) H') : CC (d + 3) BT_nameTold [va 2, va p] H Q := by
  have n16 := tpN_le hT
  obtain ⟨h1, h2, h3, q6, q7, hn⟩ := id hC
  have s := skE_rng hn
  have e := enE_rng hn
  have hC1 := hC.mv s.2
  have f1 : Fx sLX H (hs H 2 2 (skE V a)) := Fx.rf.hs (c := 2) (j := 2) rfl
  have hP1 : Ptr (hs H 2 2 (skE V a)) := ptr_lx hP f1
  have hL1 : PlT P (hs H 2 2 (skE V a)) p := hL.lx hp f1
  have b2 : hs H 2 2 (skE V a) 2 2 = skE V a := hs_same
  have F1 : Fx (sCX p) H (hs H 2 2 (skE V a)) := f1.up (sLX_cx p)
  have fh : ∀ {Q : AV → Hp → Prop}, CC (d + 2) TP_failHere [va 2] (hs H 2 2 (skE V a)) Q = Q (vi 0) (hs (hs (hs H 2 2 (skE V a)) 2 6 1) 2 7 (skE V a)) := fun {Q} => q_failHere (d := d + 1) b2
  have pl : ∀ {Q : AV → Hp → Prop}, CC (d + 2) TP_placeIn [va 2, va 901, vi (enE V a)] (hs H 2 2 (skE V a)) Q = Q (vi (plI V (skE V a) (enE V a) OW 0)) (hs H 2 2 (skE V a)) := fun {Q} => q_placeIn (d := d + 1) hT hC1.1 b2 (Nat.le_trans s.2 n16) stw_OW.1 stw_OW.2.1 stw_OW.2.2.1 stw_OW.2.2.2
  have no : nameO V a j P = .error (1, (skE V a : Int)) → Q (vi 0) (hs (hs (hs H 2 2 (skE V a)) 2 6 1) 2 7 (skE V a)) := fun z => he 1 (skE V a) z _ (((f1.hs (c := 2) (j := 6) rfl).hs (c := 2) (j := 7) rfl).up (sLX_cx p)) ((hs2 (by decide)).trans hs_same) hs_same
  by_cases c1 : ltH V a j = true
  · have ew := wr_lt c1
    have gt := ltH_gt hn c1
    have c0 : ¬ (enE V a : Int) = -1 := fun z => absurd (z ▸ Int.natCast_nonneg (enE V a)) (by decide)
    by_cases c2 : plI V (skE V a) (enE V a) OW 0 = -1
    · by_cases c3 : enE V a - skE V a ≤ 6
      · have c3' : ((enE V a - skE V a : Nat) : Int) ≤ 6 := by omega
        have w1 : w32 ((enE V a : Int) - skE V a) = (enE V a - skE V a : Nat) := w_sub e.2.2 (Nat.lt_of_le_of_lt (Nat.le_trans e.2.1 n16) (by decide))
        have hN := lrN_nm hn c1 c3
        simp only [en_BT_nameTold, e_BT_nameTold_0, k_BT_nameTold_0, e_BT_nameTold_2, k_BT_nameTold_2, e_BT_nameTold_3, k_BT_nameTold_3, rr, sh, Nat.reduceLT, Nat.reduceMul, Int.reduceToNat, Int.reduceGT, Int.reduceGE, Int.reduceNe, true_and, and_true, true_or, or_true, false_or, or_false, and_self, or_self, if_true, if_false, reduceIte, not_true_eq_false, not_false_eq_true, Int.reduceEq, Int.reduceNe, Int.reduceLT, Int.reduceLE, Int.reduceAdd, Int.reduceSub, Int.reduceMul, Int.reduceNeg, Nat.reduceAdd, Nat.reduceLeDiff, Nat.reduceEqDiff, ne_eq, List.length_cons, List.length_nil, Nat.reduceSub, q_anyWordEnd hT h1 h2 hn h3, c1, c0, b2, pl, c2, w1, c3']
        have h6 : hs H 2 2 (skE V a) p 6 = rTx P := hL1.1.2.1
        have hl1 := hL1.2.2.2.2.2.2.2.2
        have x1 : shc p = 5 := (pp_f hp hP).1
        clear w1
        refine up_nat (P := fun r => (∀ r' : Nat, r' < r → P 95 r' ≠ nmT V a) → R (d + 3) BT_nameTold (blk BT_nameTold 4) [va 2, va p, vi (enE V a), vi (skE V a), vi r, vu] [] (hs H 2 2 (skE V a)) Q) (n := rTx P) ?_ ?_ 0 (Nat.zero_le _) (fun r' h' => absurd h' (Nat.not_lt_zero r'))
        · intro hno
          have eo : nameO V a j P = .ok (enE V a, nmT V a) := by
            unfold nameO
            rw [if_pos ⟨c1, ew.trans c2⟩, if_pos c3, if_neg (by rw [dup_no hno]; decide)]
          have w6 : w32 ((rTx P : Int) * 6) = ((6 * rTx P : Nat) : Int) := w_mul6 (Nat.lt_trans hr (by decide))
          rw [e_BT_nameTold_4]
          simp only [k_BT_nameTold_4, e_BT_nameTold_6, k_BT_nameTold_6, rr, sh, Nat.reduceLT, Nat.reduceMul, Int.reduceToNat, Int.reduceGT, Int.reduceGE, Int.reduceNe, true_and, and_true, true_or, or_true, false_or, or_false, and_self, or_self, if_true, if_false, reduceIte, not_true_eq_false, not_false_eq_true, Int.reduceEq, Int.reduceNe, Int.reduceLT, Int.reduceLE, Int.reduceAdd, Int.reduceSub, Int.reduceMul, Int.reduceNeg, Nat.reduceAdd, Nat.reduceLeDiff, Nat.reduceEqDiff, ne_eq, List.length_cons, List.length_nil, Nat.reduceSub, x1, h6, Int.le_refl, w6]
          clear w6
          refine c_letters hp hP1 hT hC1 hn hB h6 hr c3 (fun X hX => ?_)
          have tX : TpV V X := ⟨by rw [hX.2.1 2 (by omega)]; exact hC1.1.1, by rw [hX.2.1 2 (by omega)]; exact hC1.1.2.1, by rw [hX.2.1 3 (by omega)]; exact hC1.1.2.2⟩
          have x2 : X 2 = hs H 2 2 (skE V a) 2 := hX.2.1 2 (by omega)
          have b2' : X 2 2 = skE V a := by rw [x2]; exact b2
          have we : weE V (skE V a) = enE V a := rfl
          simp only [e_BT_nameTold_8, k_BT_nameTold_8, rr, sh, Nat.reduceLT, Nat.reduceMul, Int.reduceToNat, Int.reduceGT, Int.reduceGE, Int.reduceNe, true_and, and_true, true_or, or_true, false_or, or_false, and_self, or_self, if_true, if_false, reduceIte, not_true_eq_false, not_false_eq_true, Int.reduceEq, Int.reduceNe, Int.reduceLT, Int.reduceLE, Int.reduceAdd, Int.reduceSub, Int.reduceMul, Int.reduceNeg, Nat.reduceAdd, Nat.reduceLeDiff, Nat.reduceEqDiff, ne_eq, List.length_cons, List.length_nil, Nat.reduceSub, q_passWord hT tX b2' s.2, we]
          have FX : Fx (sCX p) H X := F1.tr (hX.1.up (sPX_cx p))
          have F2 : Fx (sCX p) H (hs (hs X 2 2 (enE V a)) 2 3 (enE V a)) := (FX.hs (c := 2) (j := 2) (sLX_cx p 2 2 rfl)).hs (c := 2) (j := 3) (sLX_cx p 2 3 rfl)
          have o2 : ∀ c : Int, c ≠ 2 → hs (hs X 2 2 (enE V a)) 2 3 (enE V a) c = X c := fun c hc => (hs_ne hc).trans (hs_ne hc)
          refine ho _ _ eo _ F2 (hC.fx F2 hp ((hs2 (by decide)).trans hs_same) hs_same ?_ ?_ e.2.1) ⟨hs H 2 2 (skE V a), hL1, ?_, fun c q1 q2 q3 => ?_, fun i hi => ?_⟩ hN
          · rw [hs2 (by decide), hs2 (by decide), x2]; exact hC1.2.2.2.1
          · rw [hs2 (by decide), hs2 (by decide), x2]; exact hC1.2.2.2.2.1
          · rw [o2 p (by omega)]; exact hX.2.1 p (by omega)
          · rw [o2 c (by omega)]; exact hX.2.1 c q3
          · rw [o2 (p + 4) (by omega), hX.2.2 i hi]
            by_cases q : 6 * rTx P ≤ i ∧ i < 6 * rTx P + (enE V a - skE V a)
            · rw [if_pos q, if_pos (by omega)]
              unfold lrN
              rw [if_pos (by omega)]
            · rw [if_neg q]
              by_cases q2 : 6 * rTx P ≤ i ∧ i < 6 * rTx P + 6
              · rw [if_pos q2, hl1.2 i q2.1 hi]
                unfold lrN
                rw [if_neg (by omega)]
              · rw [if_neg q2]
        · intro r hk ih hno
          have hr12 : r < 12 := Nat.lt_trans hk hr
          have c4 : ¬ (rTx P : Int) ≤ (r : Int) := il_n hk
          have qi : ∀ {Q : AV → Hp → Prop}, CC (d + 2) BT_isName [va 2, va p, vi r, vi (enE V a)] (hs H 2 2 (skE V a)) Q = Q (vi (if ∀ q : Nat, q < 6 → hs H 2 2 (skE V a) (p + 4) ((6 * r + q : Nat) : Int) = lrN V a q then 1 else 0)) (hs H 2 2 (skE V a)) := fun {Q} => q_isName (d := d + 1) hp hP1 hT hC1.1 hn b2 hr12 (fun q hq => rfl)
          have ne := nm_eq (hl1.1 r hk) hN
          have kw := w32_s (n := r) (Nat.lt_trans hr12 (by decide))
          rw [e_BT_nameTold_4]
          by_cases c5 : ∀ q : Nat, q < 6 → hs H 2 2 (skE V a) (p + 4) ((6 * r + q : Nat) : Int) = lrN V a q
          · have eo : nameO V a j P = .error (3, (skE V a : Int)) := by
              unfold nameO
              rw [if_pos ⟨c1, ew.trans c2⟩, if_pos c3, if_pos ((dup_iff _).mpr ⟨r, hk, ne.mpr c5⟩)]
            rw [if_pos c5] at qi
            simp only [k_BT_nameTold_4, e_BT_nameTold_5, k_BT_nameTold_5, rr, sh, Nat.reduceLT, Nat.reduceMul, Int.reduceToNat, Int.reduceGT, Int.reduceGE, Int.reduceNe, true_and, and_true, true_or, or_true, false_or, or_false, and_self, or_self, if_true, if_false, reduceIte, not_true_eq_false, not_false_eq_true, Int.reduceEq, Int.reduceNe, Int.reduceLT, Int.reduceLE, Int.reduceAdd, Int.reduceSub, Int.reduceMul, Int.reduceNeg, Nat.reduceAdd, Nat.reduceLeDiff, Nat.reduceEqDiff, ne_eq, List.length_cons, List.length_nil, Nat.reduceSub, x1, h6, c4, qi, q_failC]
            exact he 3 (skE V a) eo _ (((f1.hs (c := 2) (j := 6) rfl).hs (c := 2) (j := 7) rfl).up (sLX_cx p)) ((hs2 (by decide)).trans hs_same) hs_same
          · have ih' := ih (fun r' h' => by
              by_cases c : r' = r
              · rw [c]; exact fun z => c5 (ne.mp z)
              · exact hno r' (Nat.lt_of_le_of_ne (Nat.le_of_lt_succ h') c))
            rw [if_neg c5] at qi
            simp only [k_BT_nameTold_4, e_BT_nameTold_5, k_BT_nameTold_5, rr, sh, Nat.reduceLT, Nat.reduceMul, Int.reduceToNat, Int.reduceGT, Int.reduceGE, Int.reduceNe, true_and, and_true, true_or, or_true, false_or, or_false, and_self, or_self, if_true, if_false, reduceIte, not_true_eq_false, not_false_eq_true, Int.reduceEq, Int.reduceNe, Int.reduceLT, Int.reduceLE, Int.reduceAdd, Int.reduceSub, Int.reduceMul, Int.reduceNeg, Nat.reduceAdd, Nat.reduceLeDiff, Nat.reduceEqDiff, ne_eq, List.length_cons, List.length_nil, Nat.reduceSub, x1, h6, c4, qi, kw]
            exact ih'
      · have c3' : ¬ ((enE V a - skE V a : Nat) : Int) ≤ 6 := by omega
        have m1 : -2147483648 ≤ (enE V a : Int) - skE V a ∧ (enE V a : Int) - skE V a < 2147483648 ∧ (enE V a : Int) - skE V a = (enE V a - skE V a : Nat) := by omega
        have w1 : w32 ((enE V a : Int) - skE V a) = (enE V a - skE V a : Nat) := by rw [w32_id m1.1 m1.2.1, m1.2.2]
        have w2 : w32 ((skE V a : Int) + 6) = ((skE V a + 6 : Nat) : Int) := w_add (b := 6) (Nat.lt_of_le_of_lt (Nat.add_le_add_right (Nat.le_trans s.2 n16) 6) (by decide))
        have eo : nameO V a j P = .error (1, ((skE V a + 6 : Nat) : Int)) := by
          unfold nameO
          rw [if_pos ⟨c1, ew.trans c2⟩, if_neg c3]
        simp only [en_BT_nameTold, e_BT_nameTold_0, k_BT_nameTold_0, e_BT_nameTold_2, k_BT_nameTold_2, rr, sh, Nat.reduceLT, Nat.reduceMul, Int.reduceToNat, Int.reduceGT, Int.reduceGE, Int.reduceNe, true_and, and_true, true_or, or_true, false_or, or_false, and_self, or_self, if_true, if_false, reduceIte, not_true_eq_false, not_false_eq_true, Int.reduceEq, Int.reduceNe, Int.reduceLT, Int.reduceLE, Int.reduceAdd, Int.reduceSub, Int.reduceMul, Int.reduceNeg, Nat.reduceAdd, Nat.reduceLeDiff, Nat.reduceEqDiff, ne_eq, List.length_cons, List.length_nil, Nat.reduceSub, q_anyWordEnd hT h1 h2 hn h3, c1, c0, b2, pl, c2, w1, c3', w2, q_failC]
        exact he 1 _ eo _ (((f1.hs (c := 2) (j := 6) rfl).hs (c := 2) (j := 7) rfl).up (sLX_cx p)) ((hs2 (by decide)).trans hs_same) hs_same
    · have eo : nameO V a j P = .error (1, (skE V a : Int)) := by
        unfold nameO
        rw [if_neg (fun z => c2 (ew.symm.trans z.2))]
      simp only [en_BT_nameTold, e_BT_nameTold_0, k_BT_nameTold_0, e_BT_nameTold_1, k_BT_nameTold_1, rr, sh, Nat.reduceLT, Nat.reduceMul, Int.reduceToNat, Int.reduceGT, Int.reduceGE, Int.reduceNe, true_and, and_true, true_or, or_true, false_or, or_false, and_self, or_self, if_true, if_false, reduceIte, not_true_eq_false, not_false_eq_true, Int.reduceEq, Int.reduceNe, Int.reduceLT, Int.reduceLE, Int.reduceAdd, Int.reduceSub, Int.reduceMul, Int.reduceNeg, Nat.reduceAdd, Nat.reduceLeDiff, Nat.reduceEqDiff, ne_eq, List.length_cons, List.length_nil, Nat.reduceSub, q_anyWordEnd hT h1 h2 hn h3, c1, c0, b2, pl, c2, fh]
      exact no eo
  · have eo : nameO V a j P = .error (1, (skE V a : Int)) := by
      unfold nameO
      rw [if_neg (fun z => c1 z.1)]
    simp only [en_BT_nameTold, e_BT_nameTold_0, k_BT_nameTold_0, e_BT_nameTold_1, k_BT_nameTold_1, rr, sh, Nat.reduceLT, Nat.reduceMul, Int.reduceToNat, Int.reduceGT, Int.reduceGE, Int.reduceNe, true_and, and_true, true_or, or_true, false_or, or_false, and_self, or_self, if_true, if_false, reduceIte, not_true_eq_false, not_false_eq_true, Int.reduceEq, Int.reduceNe, Int.reduceLT, Int.reduceLE, Int.reduceAdd, Int.reduceSub, Int.reduceMul, Int.reduceNeg, Nat.reduceAdd, Nat.reduceLeDiff, Nat.reduceEqDiff, ne_eq, List.length_cons, List.length_nil, Nat.reduceSub, q_anyWordEnd hT h1 h2 hn h3, c1, b2, fh]
    exact no eo
end PG
