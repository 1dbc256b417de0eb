/-! THE BOAT'S TEXT: the sides of a run, both -/
def lrxB (V : Hp) (s : Nat) : Nat → Bool
  | 0 => true
  | n + 1 => lrxB V s n && (decide (bz V (s + n) = 108) || (decide (bz V (s + n) = 114) || decide (bz V (s + n) = 120)))
theorem lrx_iff {V : Hp} {s : Nat} : ∀ n : Nat, lrxB V s n = true ↔ ∀ k : Nat, k < n → bz V (s + k) = 108 ∨ bz V (s + k) = 114 ∨ bz V (s + k) = 120
  | 0 => ⟨fun _ k hk => absurd hk (Nat.not_lt_zero k), fun _ => rfl⟩
  | n + 1 => by
    show (lrxB V s n && (decide (bz V (s + n) = 108) || (decide (bz V (s + n) = 114) || decide (bz V (s + n) = 120)))) = true ↔ _
    rw [Bool.and_eq_true, lrx_iff n, Bool.or_eq_true, Bool.or_eq_true, decide_eq_true_eq, decide_eq_true_eq, decide_eq_true_eq]
    constructor
    · intro h k hk
      by_cases c : k = n
      · rw [c]; exact h.2
      · exact h.1 k (lt_sN hk c)
    · intro h
      exact ⟨fun k hk => h k (Nat.lt_succ_of_lt hk), h n (Nat.lt_succ_self n)⟩
def lrS (V : Hp) (a : Nat) (P : Hp) (k : Nat) : Int := if k < sTx P then (if bz V (skE V a + k) = 108 then 1 else if bz V (skE V a + k) = 114 then 2 else 0) else 0
def sidO (V : Hp) (a : Nat) (j : Int) (P : Hp) : RdO := if ltH V a j = true ∧ enE V a = skE V a + sTx P ∧ lrxB V (skE V a) (sTx P) = true then .ok (enE V a, 0) else .error (1, (skE V a : Int))
theorem sidO_er {V : Hp} {a : Nat} {j : Int} {P : Hp} {kk p : Int} (h : sidO V a j P = .error (kk, p)) : kk ≠ 0 := by
  unfold sidO at h
  split at h
  · cases h
  · cases h; decide
def runO (V : Hp) (a : Nat) (j : Int) (P : Hp) : StO := match sidO V a j P with
  | .error x => .error x
  | .ok (e, _) => match wdO V e e (OW.getD 13 []) with
    | .error x => .error x
    | .ok (e2, _) => match numO V e2 e2 0 3 with
      | .error x => .error x
      | .ok (e3, v) => match wdO V e3 e3 (OW.getD 14 []) with
        | .error x => .error x
        | .ok (e4, _) => match sigO V e4 e4 99999 with
          | .error x => .error x
          | .ok (e5, w) => .ok (e5, runP (sidP P (lrS V a P)) v w)
section PL
variable {d : Nat} {V P H : Hp} {p : Int} {Q : AV → Hp → Prop}
set_option maxRecDepth 20000 in
theorem q_setRunSide (hp : p = 5 ∨ p = 25) (hP : Ptr H) {u n k : Nat} (h13 : H p 13 = u) (hu : u < 8) (h0 : H p 0 = n) (hk : k < n) (hn : n ≤ 12) {x : Int} : CC (d + 1) PL_setRunSide [va p, vi k, vi x] H Q = Q vu (hs H (p + 8) ((12 * u + k : Nat) : Int) x) := by
  refine CC_dt fun Q hQ => ?_
  obtain ⟨x1, -, -, -, -, -, -, -, g8, -⟩ := pp_f hp hP
  have c1 : ¬ (8 : Int) ≤ (u : Int) := il_n hu
  have j0 : 0 ≤ (k : Int) ∧ (k : Int) < (n : Int) := ix_n hk
  have b1 : 12 * u + k < 96 := by omega
  have j1 : 0 ≤ ((12 * u + k : Nat) : Int) ∧ ((12 * u + k : Nat) : Int) < 96 := ix_n b1
  have w1 : w32 (w32 ((u : Int) * 12) + k) = ((12 * u + k : Nat) : Int) := by rw [w_mul12' (Nat.lt_trans hu (by decide)), w_add (Nat.lt_trans b1 (by decide))]
  simp only [en_PL_setRunSide, e_PL_setRunSide_0, k_PL_setRunSide_0, e_PL_setRunSide_1, k_PL_setRunSide_1, rr, sh, Nat.reduceLT, Nat.reduceMul, Int.reduceToNat, Int.reduceGT, Int.reduceGE, Int.reduceNe, true_and, and_true, true_or, or_true, false_or, or_false, and_self, or_self, if_true, if_false, reduceIte, not_true_eq_false, not_false_eq_true, Int.reduceEq, Int.reduceNe, Int.reduceLT, Int.reduceLE, Int.reduceAdd, Int.reduceSub, Int.reduceMul, Int.reduceNeg, Nat.reduceAdd, Nat.reduceLeDiff, Nat.reduceEqDiff, ne_eq, List.length_cons, List.length_nil, Nat.reduceSub, x1, g8, h13, c1, q_isSeat x1, h0, j0, w1, j1]
  exact hQ
def SdW (V P H X : Hp) (p : Int) (a n : Nat) : Prop := Fx (sPX p) H X ∧ (∀ c : Int, c ≠ p + 8 → X c = H c) ∧ ∀ i : Nat, i < 96 → X (p + 8) i = if 12 * uTx P ≤ i ∧ i < 12 * uTx P + n then csS (lrS V a P (i - 12 * uTx P)) else H (p + 8) i
set_option maxRecDepth 20000 in
theorem c_sidesTold (hp : p = 5 ∨ p = 25) (hP : Ptr H) (hT : TapeR V) {a : Nat} {j : Int} (hC : CRd V H a j) (hB : TxB P) (hL : PlT P H p) (hr : uTx P < 8)
    (he : ∀ kk pl, sidO V a j P = .error (kk, pl) → ∀ H', Fx (sCX p) H H' → H' 2 6 = kk → H' 2 7 = pl → Q (vi 0) H')
    (ho : ∀ e x, sidO V a j P = .ok (e, x) → ∀ H', Fx (sCX p) H H' → CRd V H' e e → PlS (lrS V a P) P H' p → Q (vi 1) H') : CC (d + 3) BT_sidesTold [va 2, va p] H Q := by
  have n16 := tpN_le hT
  obtain ⟨h1, h2, h3, q6, q7, hn⟩ := id hC
  have s := skE_rng hn
  have e := enE_rng hn
  have hC1 := hC.mv s.2
  have f1 : Fx sLX H (hs H 2 2 (skE V a)) := Fx.rf.hs (c := 2) (j := 2) rfl
  have hP1 : Ptr (hs H 2 2 (skE V a)) := ptr_lx hP f1
  have hL1 : PlT P (hs H 2 2 (skE V a)) p := hL.lx hp f1
  have b2 : hs H 2 2 (skE V a) 2 2 = skE V a := hs_same
  have F1 : Fx (sCX p) H (hs H 2 2 (skE V a)) := f1.up (sLX_cx p)
  have x1 : shc p = 5 := (pp_f hp hP).1
  have h0 : hs H 2 2 (skE V a) p 0 = sTx P := hL1.1.1
  have fh : ∀ {Q : AV → Hp → Prop}, CC (d + 2) TP_failHere [va 2] (hs H 2 2 (skE V a)) Q = Q (vi 0) (hs (hs (hs H 2 2 (skE V a)) 2 6 1) 2 7 (skE V a)) := fun {Q} => q_failHere (d := d + 1) b2
  have no : sidO V a j P = .error (1, (skE V a : Int)) → Q (vi 0) (hs (hs (hs H 2 2 (skE V a)) 2 6 1) 2 7 (skE V a)) := fun z => he 1 (skE V a) z _ (((f1.hs (c := 2) (j := 6) rfl).hs (c := 2) (j := 7) rfl).up (sLX_cx p)) ((hs2 (by decide)).trans hs_same) hs_same
  by_cases c1 : ltH V a j = true
  · have c0 : ¬ (enE V a : Int) = -1 := fun z => absurd (z ▸ Int.natCast_nonneg (enE V a)) (by decide)
    have w1 : w32 ((enE V a : Int) - skE V a) = (enE V a - skE V a : Nat) := w_sub e.2.2 (Nat.lt_of_le_of_lt (Nat.le_trans e.2.1 n16) (by decide))
    by_cases c2 : enE V a - skE V a = sTx P
    · have ee : enE V a = skE V a + sTx P := by rw [← c2]; exact (Nat.add_sub_cancel' e.2.2).symm
      simp only [en_BT_sidesTold, e_BT_sidesTold_0, k_BT_sidesTold_0, e_BT_sidesTold_2, k_BT_sidesTold_2, rr, sh, Nat.reduceLT, Nat.reduceMul, Int.reduceToNat, Int.reduceGT, Int.reduceGE, Int.reduceNe, true_and, and_true, true_or, or_true, false_or, or_false, and_self, or_self, if_true, if_false, reduceIte, not_true_eq_false, not_false_eq_true, Int.reduceEq, Int.reduceNe, Int.reduceLT, Int.reduceLE, Int.reduceAdd, Int.reduceSub, Int.reduceMul, Int.reduceNeg, Nat.reduceAdd, Nat.reduceLeDiff, Nat.reduceEqDiff, ne_eq, List.length_cons, List.length_nil, Nat.reduceSub, q_anyWordEnd hT h1 h2 hn h3, c1, c0, b2, w1, x1, h0, c2]
      clear w1
      refine up_nat (P := fun k => ∀ X y z, SdW V P (hs H 2 2 (skE V a)) X p a k → lrxB V (skE V a) k = true → R (d + 3) BT_sidesTold (blk BT_sidesTold 3) [va 2, va p, vi (enE V a), vi k, y, z] [] X Q) (n := sTx P) ?_ ?_ 0 (Nat.zero_le _) _ vu vu ⟨Fx.rf, fun _ _ => rfl, fun i hi => by rw [if_neg (fun z => absurd (Nat.lt_of_lt_of_le z.2 (Nat.le_of_eq (Nat.add_zero _))) (Nat.not_lt.mpr z.1))]⟩ rfl
      · intro X y z hX hx
        have eo : sidO V a j P = .ok (enE V a, 0) := by unfold sidO; rw [if_pos ⟨c1, ee, hx⟩]
        have tX : TpV V X := ⟨by rw [hX.2.1 2 (by omega)]; exact hC1.1.1, by rw [hX.2.1 2 (by omega)]; exact hC1.1.2.1, by rw [hX.2.1 3 (by omega)]; exact hC1.1.2.2⟩
        have x2 : X 2 = hs H 2 2 (skE V a) 2 := hX.2.1 2 (by omega)
        have b2' : X 2 2 = skE V a := by rw [x2]; exact b2
        have h0X : X p 0 = sTx P := by rw [hX.2.1 p (by omega)]; exact h0
        have we : weE V (skE V a) = enE V a := rfl
        have FX : Fx (sCX p) H X := F1.tr (hX.1.up (sPX_cx p))
        have F2 : Fx (sCX p) H (hs (hs X 2 2 (enE V a)) 2 3 (enE V a)) := (FX.hs (c := 2) (j := 2) (sLX_cx p 2 2 rfl)).hs (c := 2) (j := 3) (sLX_cx p 2 3 rfl)
        have o2 : ∀ c : Int, c ≠ 2 → hs (hs X 2 2 (enE V a)) 2 3 (enE V a) c = X c := fun c hc => (hs_ne hc).trans (hs_ne hc)
        rw [e_BT_sidesTold_3]
        simp only [k_BT_sidesTold_3, e_BT_sidesTold_9, k_BT_sidesTold_9, rr, sh, Nat.reduceLT, Nat.reduceMul, Int.reduceToNat, Int.reduceGT, Int.reduceGE, Int.reduceNe, true_and, and_true, true_or, or_true, false_or, or_false, and_self, or_self, if_true, if_false, reduceIte, not_true_eq_false, not_false_eq_true, Int.reduceEq, Int.reduceNe, Int.reduceLT, Int.reduceLE, Int.reduceAdd, Int.reduceSub, Int.reduceMul, Int.reduceNeg, Nat.reduceAdd, Nat.reduceLeDiff, Nat.reduceEqDiff, ne_eq, List.length_cons, List.length_nil, Nat.reduceSub, x1, h0X, Int.le_refl, q_passWord hT tX b2' s.2, we]
        have hz := hL1.2.2.2.2.2.1.2
        refine ho _ _ eo _ F2 (hC.fx F2 hp ((hs2 (by decide)).trans hs_same) hs_same ?_ ?_ e.2.1) ⟨hs H 2 2 (skE V a), hL1, ?_, fun c q1 q2 q3 => ?_, fun i hi => ?_⟩
        · rw [hs2 (by decide), hs2 (by decide), x2]; exact hC1.2.2.2.1
        · rw [hs2 (by decide), hs2 (by decide), x2]; exact hC1.2.2.2.2.1
        · rw [o2 p (by omega)]; exact hX.2.1 p (by omega)
        · rw [o2 c (by omega)]; exact hX.2.1 c q3
        · rw [o2 (p + 8) (by omega), hX.2.2 i hi]
          have s12 := hB.1.2
          by_cases q : 12 * uTx P ≤ i ∧ i < 12 * uTx P + sTx P
          · rw [if_pos q, if_pos (by omega)]
          · rw [if_neg q]
            by_cases q2 : 12 * uTx P ≤ i ∧ i < 12 * uTx P + 12
            · rw [if_pos q2, hz i q2.1 hi]
              unfold lrS
              rw [if_neg (by omega)]
              rfl
            · rw [if_neg q2]
      · intro k hk ih X y z hX hx
        have s12 := hB.1.2
        have tX : TpV V X := ⟨by rw [hX.2.1 2 (by omega)]; exact hC1.1.1, by rw [hX.2.1 2 (by omega)]; exact hC1.1.2.1, by rw [hX.2.1 3 (by omega)]; exact hC1.1.2.2⟩
        have x2 : X 2 = hs H 2 2 (skE V a) 2 := hX.2.1 2 (by omega)
        have b2' : X 2 2 = skE V a := by rw [x2]; exact b2
        have h0X : X p 0 = sTx P := by rw [hX.2.1 p (by omega)]; exact h0
        have h13X : X p 13 = uTx P := by rw [hX.2.1 p (by omega)]; exact hL1.1.2.2.1
        have fhX : ∀ {Q : AV → Hp → Prop}, CC (d + 2) TP_failHere [va 2] X Q = Q (vi 0) (hs (hs X 2 6 1) 2 7 (skE V a)) := fun {Q} => q_failHere (d := d + 1) b2'
        have FX : Fx (sCX p) H X := F1.tr (hX.1.up (sPX_cx p))
        have bad : ¬ (bz V (skE V a + k) = 108 ∨ bz V (skE V a + k) = 114 ∨ bz V (skE V a + k) = 120) → Q (vi 0) (hs (hs X 2 6 1) 2 7 (skE V a)) := fun z => he 1 (skE V a) (by
          unfold sidO
          rw [if_neg (fun w => z ((lrx_iff _).mp w.2.2 k hk))]) _ ((FX.hs (c := 2) (j := 6) (sLX_cx p 2 6 rfl)).hs (c := 2) (j := 7) (sLX_cx p 2 7 rfl)) ((hs2 (by decide)).trans hs_same) hs_same
        have go : (bz V (skE V a + k) = 108 ∨ bz V (skE V a + k) = 114 ∨ bz V (skE V a + k) = 120) → ∀ x : Int, x = csS (lrS V a P k) → ∀ y z, R (d + 3) BT_sidesTold (blk BT_sidesTold 3) [va 2, va p, vi (enE V a), vi ((k + 1 : Nat) : Int), y, z] [] (hs X (p + 8) ((12 * uTx P + k : Nat) : Int) x) Q := by
          intro hl x hx2 y z
          refine ih _ y z ⟨hX.1.hs (sPX_a (by decide)), fun c hc => by rw [hs_ne hc]; exact hX.2.1 c hc, fun i hi => ?_⟩ ?_
          · rw [hs_at, at_z]
            by_cases q : i = 12 * uTx P + k
            · rw [if_pos q, if_pos (by omega), q, Nat.add_sub_cancel_left, hx2]
            · rw [if_neg q, hX.2.2 i hi]
              by_cases q2 : 12 * uTx P ≤ i ∧ i < 12 * uTx P + k
              · rw [if_pos q2, if_pos (by omega)]
              · rw [if_neg q2, if_neg (by omega)]
          · exact (lrx_iff _).mpr (fun q hq => by
              by_cases c : q = k
              · rw [c]; exact hl
              · exact (lrx_iff _).mp hx q (lt_sN hq c))
        have el : lrS V a P k = if bz V (skE V a + k) = 108 then 1 else if bz V (skE V a + k) = 114 then 2 else 0 := if_pos hk
        clear ih he ho no
        have cl : ¬ (sTx P : Int) ≤ (k : Int) := il_n hk
        have k12 : k < 12 := Nat.lt_of_lt_of_le hk s12
        have PX : Ptr X := ptr_px hp hP1 hX.1
        have w3 : w32 ((skE V a : Int) + k) = ((skE V a + k : Nat) : Int) := w_add (Nat.lt_of_le_of_lt (Nat.add_le_add (Nat.le_trans s.2 n16) (Nat.le_of_lt k12)) (by decide))
        have kw := w32_s (n := k) (Nat.lt_trans k12 (by decide))
        have qr : ∀ {Q : AV → Hp → Prop} {x : Int}, CC (d + 2) PL_setRunSide [va p, vi k, vi x] X Q = Q vu (hs X (p + 8) ((12 * uTx P + k : Nat) : Int) x) := fun {Q x} => q_setRunSide (d := d + 1) hp PX h13X hr h0X hk s12
        rw [e_BT_sidesTold_3]
        by_cases l1 : bz V (skE V a + k) = 108
        · have := go (Or.inl l1) (-1) (by rw [el, if_pos l1]; rfl)
          simp only [k_BT_sidesTold_3, e_BT_sidesTold_4, k_BT_sidesTold_4, e_BT_sidesTold_5, k_BT_sidesTold_5, e_BT_sidesTold_6, k_BT_sidesTold_6, e_BT_sidesTold_7, k_BT_sidesTold_7, e_BT_sidesTold_8, k_BT_sidesTold_8, rr, sh, Nat.reduceLT, Nat.reduceMul, Int.reduceToNat, Int.reduceGT, Int.reduceGE, Int.reduceNe, true_and, and_true, true_or, or_true, false_or, or_false, and_self, or_self, if_true, if_false, reduceIte, not_true_eq_false, not_false_eq_true, Int.reduceEq, Int.reduceNe, Int.reduceLT, Int.reduceLE, Int.reduceAdd, Int.reduceSub, Int.reduceMul, Int.reduceNeg, Nat.reduceAdd, Nat.reduceLeDiff, Nat.reduceEqDiff, ne_eq, List.length_cons, List.length_nil, Nat.reduceSub, x1, h0X, cl, b2', w3, q_byteZ hT tX, l1, qr, kw]
          exact this _ _
        · by_cases l2 : bz V (skE V a + k) = 114
          · have := go (Or.inr (Or.inl l2)) 1 (by rw [el, if_neg l1, if_pos l2]; rfl)
            simp only [k_BT_sidesTold_3, e_BT_sidesTold_4, k_BT_sidesTold_4, e_BT_sidesTold_5, k_BT_sidesTold_5, e_BT_sidesTold_6, k_BT_sidesTold_6, e_BT_sidesTold_7, k_BT_sidesTold_7, e_BT_sidesTold_8, k_BT_sidesTold_8, rr, sh, Nat.reduceLT, Nat.reduceMul, Int.reduceToNat, Int.reduceGT, Int.reduceGE, Int.reduceNe, true_and, and_true, true_or, or_true, false_or, or_false, and_self, or_self, if_true, if_false, reduceIte, not_true_eq_false, not_false_eq_true, Int.reduceEq, Int.reduceNe, Int.reduceLT, Int.reduceLE, Int.reduceAdd, Int.reduceSub, Int.reduceMul, Int.reduceNeg, Nat.reduceAdd, Nat.reduceLeDiff, Nat.reduceEqDiff, ne_eq, List.length_cons, List.length_nil, Nat.reduceSub, x1, h0X, cl, b2', w3, q_byteZ hT tX, l2, qr, kw]
            exact this _ _
          · by_cases l3 : bz V (skE V a + k) = 120
            · have := go (Or.inr (Or.inr l3)) 0 (by rw [el, if_neg l1, if_neg l2]; rfl)
              simp only [k_BT_sidesTold_3, e_BT_sidesTold_4, k_BT_sidesTold_4, e_BT_sidesTold_5, k_BT_sidesTold_5, e_BT_sidesTold_6, k_BT_sidesTold_6, e_BT_sidesTold_7, k_BT_sidesTold_7, e_BT_sidesTold_8, k_BT_sidesTold_8, rr, sh, Nat.reduceLT, Nat.reduceMul, Int.reduceToNat, Int.reduceGT, Int.reduceGE, Int.reduceNe, true_and, and_true, true_or, or_true, false_or, or_false, and_self, or_self, if_true, if_false, reduceIte, not_true_eq_false, not_false_eq_true, Int.reduceEq, Int.reduceNe, Int.reduceLT, Int.reduceLE, Int.reduceAdd, Int.reduceSub, Int.reduceMul, Int.reduceNeg, Nat.reduceAdd, Nat.reduceLeDiff, Nat.reduceEqDiff, ne_eq, List.length_cons, List.length_nil, Nat.reduceSub, x1, h0X, cl, b2', w3, q_byteZ hT tX, l3, qr, kw]
              exact this _ _
            · have := bad (fun z => z.elim l1 (fun z => z.elim l2 l3))
              simp only [k_BT_sidesTold_3, e_BT_sidesTold_4, k_BT_sidesTold_4, e_BT_sidesTold_5, k_BT_sidesTold_5, e_BT_sidesTold_6, k_BT_sidesTold_6, e_BT_sidesTold_7, k_BT_sidesTold_7, e_BT_sidesTold_8, k_BT_sidesTold_8, rr, sh, Nat.reduceLT, Nat.reduceMul, Int.reduceToNat, Int.reduceGT, Int.reduceGE, Int.reduceNe, true_and, and_true, true_or, or_true, false_or, or_false, and_self, or_self, if_true, if_false, reduceIte, not_true_eq_false, not_false_eq_true, Int.reduceEq, Int.reduceNe, Int.reduceLT, Int.reduceLE, Int.reduceAdd, Int.reduceSub, Int.reduceMul, Int.reduceNeg, Nat.reduceAdd, Nat.reduceLeDiff, Nat.reduceEqDiff, ne_eq, List.length_cons, List.length_nil, Nat.reduceSub, x1, h0X, cl, b2', w3, q_byteZ hT tX, l1, l2, l3, fhX]
              exact this
    · have c2' : ¬ ((enE V a - skE V a : Nat) : Int) = (sTx P : Int) := fun z => c2 (Int.ofNat_inj.mp z)
      have := no (by unfold sidO; rw [if_neg (fun z => c2 (by rw [z.2.1, Nat.add_sub_cancel_left]))])
      simp only [en_BT_sidesTold, e_BT_sidesTold_0, k_BT_sidesTold_0, e_BT_sidesTold_1, k_BT_sidesTold_1, rr, sh, Nat.reduceLT, Nat.reduceMul, Int.reduceToNat, Int.reduceGT, Int.reduceGE, Int.reduceNe, true_and, and_true, true_or, or_true, false_or, or_false, and_self, or_self, if_true, if_false, reduceIte, not_true_eq_false, not_false_eq_true, Int.reduceEq, Int.reduceNe, Int.reduceLT, Int.reduceLE, Int.reduceAdd, Int.reduceSub, Int.reduceMul, Int.reduceNeg, Nat.reduceAdd, Nat.reduceLeDiff, Nat.reduceEqDiff, ne_eq, List.length_cons, List.length_nil, Nat.reduceSub, q_anyWordEnd hT h1 h2 hn h3, c1, c0, b2, w1, x1, h0, c2', fh]
      exact this
  · have := no (by unfold sidO; rw [if_neg (fun z => c1 z.1)])
    simp only [en_BT_sidesTold, e_BT_sidesTold_0, k_BT_sidesTold_0, e_BT_sidesTold_1, k_BT_sidesTold_1, rr, sh, Nat.reduceLT, Nat.reduceMul, Int.reduceToNat, Int.reduceGT, Int.reduceGE, Int.reduceNe, true_and, and_true, true_or, or_true, false_or, or_false, and_self, or_self, if_true, if_false, reduceIte, not_true_eq_false, not_false_eq_true, Int.reduceEq, Int.reduceNe, Int.reduceLT, Int.reduceLE, Int.reduceAdd, Int.reduceSub, Int.reduceMul, Int.reduceNeg, Nat.reduceAdd, Nat.reduceLeDiff, Nat.reduceEqDiff, ne_eq, List.length_cons, List.length_nil, Nat.reduceSub, q_anyWordEnd hT h1 h2 hn h3, c1, b2, fh]
    exact this
set_option maxRecDepth 20000 in
theorem c_runTold (hp : p = 5 ∨ p = 25) (hP : Ptr H) (hT : TapeR V) {a : Nat} {j : Int} (hC : CRd V H a j) (hB : TxB P) (hL : PlT P H p) (hr : uTx P < 8)
    (he : ∀ kk pl, runO V a j P = .error (kk, pl) → ∀ H', Fx (sCX p) H H' → H' 2 6 = kk → H' 2 7 = pl → Q (vi 0) H')
    (ho : ∀ e P', runO V a j P = .ok (e, P') → ∀ H', Fx (sCX p) H H' → CRd V H' e e → PlT P' H' p → Q (vi 1) H') : CC (d + 5) BT_runTold [va 2, va p] H Q := by
  have x1 : shc p = 5 := by rcases hp with rfl | rfl <;> rfl
  simp only [en_BT_runTold, e_BT_runTold_0, k_BT_runTold_0, rr, sh, Nat.reduceLT, Nat.reduceMul, Int.reduceToNat, Int.reduceGT, Int.reduceGE, Int.reduceNe, true_and, and_true, true_or, or_true, false_or, or_false, and_self, or_self, if_true, if_false, reduceIte, not_true_eq_false, not_false_eq_true, Int.reduceEq, Int.reduceNe, Int.reduceLT, Int.reduceLE, Int.reduceAdd, Int.reduceSub, Int.reduceMul, Int.reduceNeg, Nat.reduceAdd, Nat.reduceLeDiff, Nat.reduceEqDiff, ne_eq, List.length_cons, List.length_nil, Nat.reduceSub]
  refine c_sidesTold (d := d + 1) hp hP hT hC hB hL hr (fun kk pl e H' hF q6 q7 => ?_) (fun e x eo H1 hF1 hC1 hN => ?_)
  · simp only [e_BT_runTold_1, k_BT_runTold_1, rr, sh, Nat.reduceLT, Nat.reduceMul, Int.reduceToNat, Int.reduceGT, Int.reduceGE, Int.reduceNe, true_and, and_true, true_or, or_true, false_or, or_false, and_self, or_self, if_true, if_false, reduceIte, not_true_eq_false, not_false_eq_true, Int.reduceEq, Int.reduceNe, Int.reduceLT, Int.reduceLE, Int.reduceAdd, Int.reduceSub, Int.reduceMul, Int.reduceNeg, Nat.reduceAdd, Nat.reduceLeDiff, Nat.reduceEqDiff, ne_eq, List.length_cons, List.length_nil, Nat.reduceSub]
    exact he kk pl (by unfold runO; rw [e]; try rfl) H' hF q6 q7
  · simp only [rr, sh, Nat.reduceLT, Nat.reduceMul, Int.reduceToNat, Int.reduceGT, Int.reduceGE, Int.reduceNe, true_and, and_true, true_or, or_true, false_or, or_false, and_self, or_self, if_true, if_false, reduceIte, not_true_eq_false, not_false_eq_true, Int.reduceEq, Int.reduceNe, Int.reduceLT, Int.reduceLE, Int.reduceAdd, Int.reduceSub, Int.reduceMul, Int.reduceNeg, Nat.reduceAdd, Nat.reduceLeDiff, Nat.reduceEqDiff, ne_eq, List.length_cons, List.length_nil, Nat.reduceSub]
    refine x_wdCO (d := d) (i := 13) hT hC1 (by decide) rfl (fun kk pl e2 H' hF q6 q7 => ?_) (fun e2 u eo2 H2 hF2 hC2 => ?_)
    · simp only [e_BT_runTold_1, k_BT_runTold_1, rr, sh, Nat.reduceLT, Nat.reduceMul, Int.reduceToNat, Int.reduceGT, Int.reduceGE, Int.reduceNe, true_and, and_true, true_or, or_true, false_or, or_false, and_self, or_self, if_true, if_false, reduceIte, not_true_eq_false, not_false_eq_true, Int.reduceEq, Int.reduceNe, Int.reduceLT, Int.reduceLE, Int.reduceAdd, Int.reduceSub, Int.reduceMul, Int.reduceNeg, Nat.reduceAdd, Nat.reduceLeDiff, Nat.reduceEqDiff, ne_eq, List.length_cons, List.length_nil, Nat.reduceSub]
      exact he kk pl (by unfold runO; rw [eo]; simp only [e2]) H' (hF1.tr (hF.up (sLX_cx p))) q6 q7
    · simp only [rr, sh, Nat.reduceLT, Nat.reduceMul, Int.reduceToNat, Int.reduceGT, Int.reduceGE, Int.reduceNe, true_and, and_true, true_or, or_true, false_or, or_false, and_self, or_self, if_true, if_false, reduceIte, not_true_eq_false, not_false_eq_true, Int.reduceEq, Int.reduceNe, Int.reduceLT, Int.reduceLE, Int.reduceAdd, Int.reduceSub, Int.reduceMul, Int.reduceNeg, Nat.reduceAdd, Nat.reduceLeDiff, Nat.reduceEqDiff, ne_eq, List.length_cons, List.length_nil, Nat.reduceSub]
      refine x_numC (d := d + 2) hT hC2 (fun kk pl e3 H' hF q6 q7 => ?_) (fun e3 v eo3 H3 hF3 hC3 q4 q5 => ?_)
      · simp only [e_BT_runTold_1, k_BT_runTold_1, rr, sh, Nat.reduceLT, Nat.reduceMul, Int.reduceToNat, Int.reduceGT, Int.reduceGE, Int.reduceNe, true_and, and_true, true_or, or_true, false_or, or_false, and_self, or_self, if_true, if_false, reduceIte, not_true_eq_false, not_false_eq_true, Int.reduceEq, Int.reduceNe, Int.reduceLT, Int.reduceLE, Int.reduceAdd, Int.reduceSub, Int.reduceMul, Int.reduceNeg, Nat.reduceAdd, Nat.reduceLeDiff, Nat.reduceEqDiff, ne_eq, List.length_cons, List.length_nil, Nat.reduceSub]
        exact he kk pl (by unfold runO; rw [eo]; simp only [eo2, e3]) H' (hF1.tr ((hF2.tr hF).up (sLX_cx p))) q6 q7
      · simp only [e_BT_runTold_2, k_BT_runTold_2, rr, sh, Nat.reduceLT, Nat.reduceMul, Int.reduceToNat, Int.reduceGT, Int.reduceGE, Int.reduceNe, true_and, and_true, true_or, or_true, false_or, or_false, and_self, or_self, if_true, if_false, reduceIte, not_true_eq_false, not_false_eq_true, Int.reduceEq, Int.reduceNe, Int.reduceLT, Int.reduceLE, Int.reduceAdd, Int.reduceSub, Int.reduceMul, Int.reduceNeg, Nat.reduceAdd, Nat.reduceLeDiff, Nat.reduceEqDiff, ne_eq, List.length_cons, List.length_nil, Nat.reduceSub, q4]
        refine x_wdCO (d := d) (i := 14) hT hC3 (by decide) rfl (fun kk pl e4 H' hF q6 q7 => ?_) (fun e4 u4 eo4 H4 hF4 hC4 => ?_)
        · simp only [e_BT_runTold_3, k_BT_runTold_3, rr, sh, Nat.reduceLT, Nat.reduceMul, Int.reduceToNat, Int.reduceGT, Int.reduceGE, Int.reduceNe, true_and, and_true, true_or, or_true, false_or, or_false, and_self, or_self, if_true, if_false, reduceIte, not_true_eq_false, not_false_eq_true, Int.reduceEq, Int.reduceNe, Int.reduceLT, Int.reduceLE, Int.reduceAdd, Int.reduceSub, Int.reduceMul, Int.reduceNeg, Nat.reduceAdd, Nat.reduceLeDiff, Nat.reduceEqDiff, ne_eq, List.length_cons, List.length_nil, Nat.reduceSub]
          exact he kk pl (by unfold runO; rw [eo]; simp only [eo2, eo3, e4]) H' (hF1.tr (((hF2.tr hF3).tr hF).up (sLX_cx p))) q6 q7
        · simp only [rr, sh, Nat.reduceLT, Nat.reduceMul, Int.reduceToNat, Int.reduceGT, Int.reduceGE, Int.reduceNe, true_and, and_true, true_or, or_true, false_or, or_false, and_self, or_self, if_true, if_false, reduceIte, not_true_eq_false, not_false_eq_true, Int.reduceEq, Int.reduceNe, Int.reduceLT, Int.reduceLE, Int.reduceAdd, Int.reduceSub, Int.reduceMul, Int.reduceNeg, Nat.reduceAdd, Nat.reduceLeDiff, Nat.reduceEqDiff, ne_eq, List.length_cons, List.length_nil, Nat.reduceSub]
          refine x_sigC (d := d + 1) hT (by decide) hC4 (fun kk pl e5 H' hF q6 q7 => ?_) (fun e5 w eo5 H5 hF5 hC5 q4' => ?_)
          · simp only [e_BT_runTold_3, k_BT_runTold_3, rr, sh, Nat.reduceLT, Nat.reduceMul, Int.reduceToNat, Int.reduceGT, Int.reduceGE, Int.reduceNe, true_and, and_true, true_or, or_true, false_or, or_false, and_self, or_self, if_true, if_false, reduceIte, not_true_eq_false, not_false_eq_true, Int.reduceEq, Int.reduceNe, Int.reduceLT, Int.reduceLE, Int.reduceAdd, Int.reduceSub, Int.reduceMul, Int.reduceNeg, Nat.reduceAdd, Nat.reduceLeDiff, Nat.reduceEqDiff, ne_eq, List.length_cons, List.length_nil, Nat.reduceSub]
            exact he kk pl (by unfold runO; rw [eo]; simp only [eo2, eo3, eo4, e5]) H' (hF1.tr ((((hF2.tr hF3).tr hF4).tr hF).up (sLX_cx p))) q6 q7
          · have F5 : Fx sLX H1 H5 := ((hF2.tr hF3).tr hF4).tr hF5
            have G5 : Fx (sCX p) H H5 := hF1.tr (F5.up (sLX_cx p))
            simp only [e_BT_runTold_4, k_BT_runTold_4, rr, sh, Nat.reduceLT, Nat.reduceMul, Int.reduceToNat, Int.reduceGT, Int.reduceGE, Int.reduceNe, true_and, and_true, true_or, or_true, false_or, or_false, and_self, or_self, if_true, if_false, reduceIte, not_true_eq_false, not_false_eq_true, Int.reduceEq, Int.reduceNe, Int.reduceLT, Int.reduceLE, Int.reduceAdd, Int.reduceSub, Int.reduceMul, Int.reduceNeg, Nat.reduceAdd, Nat.reduceLeDiff, Nat.reduceEqDiff, ne_eq, List.length_cons, List.length_nil, Nat.reduceSub, x1, q4']
            refine c_addRun hp (ptr_cx hp hP G5) (hN.lx hp F5) hr (fun H' hF hL' => ?_)
            exact ho e5 _ (by unfold runO; rw [eo]; simp only [eo2, eo3, eo4, eo5]) H' (G5.tr (hF.up (sPX_cx p))) (hC5.px hp hF) hL'
end PL
