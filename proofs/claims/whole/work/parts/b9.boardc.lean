/-! THE BOAT'S TEXT: the class boards the plan -/
section PV
variable {d : Nat} {V P H : Hp} {p : Int} {Q : AV → Hp → Prop}
def BdW (P X Z : Hp) (k : Nat) : Prop := (∀ a : Int, a ≠ 18 → a ≠ 19 → Z a = X a) ∧ ∀ i : Nat, i < k → Z 18 i = siT P i ∧ (i < sTx P → Z 19 i = if rgB P i = true then 1 else 0)
theorem BdW.put {X Z : Hp} {k : Nat} {v w : Int} (h : BdW P X Z k) (hv : v = siT P k) (hw : k < sTx P → w = if rgB P k = true then 1 else 0) : BdW P X (hs (hs Z 18 k v) 19 k w) (k + 1) := by
  refine ⟨fun a h1 h2 => (hs_ne h2).trans ((hs_ne h1).trans (h.1 a h1 h2)), fun i hi => ?_⟩
  rw [hs_ne' (by decide), hs_at, hs_at, at_z, at_z]
  by_cases c : i = k
  · rw [if_pos c, if_pos c, c]
    exact ⟨hv, hw⟩
  · rw [if_neg c, if_neg c, hs_ne' (by decide)]
    exact h.2 i (lt_sN hi c)
theorem b_and1 {k : Nat} (h : k < 100) : b_and (k : Int) 1 = ((k % 2 : Nat) : Int) := by
  have := b_and_nat (a := k) (b := 1) (Nat.lt_trans h (by decide)) (by decide)
  rw [Nat.and_one_is_mod] at this
  exact this
/-- the side of a seat at first, as the class reckons it -/
def svC (f g k : Nat) : Int := if (f ||| g).testBit k then (if g.testBit k then 1 else 0) else ((k % 2 : Nat) : Int)
set_option maxRecDepth 20000 in
theorem q_sideAtFirst {f g k : Nat} (x1 : shc p = 5) (h4 : H p 4 = f) (h5 : H p 5 = g) (hf : f < 4096) (hg : g < 4096) (hk : k < 12) : CC (d + 1) PL_sideAtFirst [va p, vi k] H Q = Q (vi (svC f g k)) H := by
  refine CC_dt fun Q hQ => ?_
  have o1 : f ||| g < 4096 := nlt_or (n := 12) hf hg
  have w1 : b_or (f : Int) (g : Int) = ((f ||| g : Nat) : Int) := b_or_nat (Nat.lt_trans hf (by decide)) (Nat.lt_trans hg (by decide))
  have w2 := b_bit (a := f ||| g) (k := k) (Nat.lt_trans o1 (by decide)) (Nat.lt_trans hk (by decide))
  have w3 := b_bit (a := g) (k := k) (Nat.lt_trans hg (by decide)) (Nat.lt_trans hk (by decide))
  have w4 := b_and1 (k := k) (Nat.lt_trans hk (by decide))
  unfold svC at hQ
  by_cases c : (f ||| g).testBit k = true
  · rw [if_pos c] at w2 hQ
    simp only [en_PL_sideAtFirst, e_PL_sideAtFirst_0, k_PL_sideAtFirst_0, e_PL_sideAtFirst_1, k_PL_sideAtFirst_1, en_PL_isFixed, e_PL_isFixed_0, k_PL_isFixed_0, e_PL_isFixed_1, k_PL_isFixed_1, e_PL_isFixed_2, k_PL_isFixed_2, rr, sh, Nat.reduceLT, Nat.reduceMul, Int.reduceToNat, Int.reduceGT, Int.reduceGE, Int.reduceNe, true_and, and_true, true_or, or_true, false_or, or_false, and_self, or_self, if_true, if_false, reduceIte, not_true_eq_false, not_false_eq_true, Int.reduceEq, Int.reduceNe, Int.reduceLT, Int.reduceLE, Int.reduceAdd, Int.reduceSub, Int.reduceMul, Int.reduceNeg, Nat.reduceAdd, Nat.reduceLeDiff, Nat.reduceEqDiff, ne_eq, List.length_cons, List.length_nil, Nat.reduceSub, x1, h4, h5, w1, w2, w3]
    exact hQ
  · rw [if_neg c] at w2 hQ
    simp only [en_PL_sideAtFirst, e_PL_sideAtFirst_0, k_PL_sideAtFirst_0, e_PL_sideAtFirst_1, k_PL_sideAtFirst_1, en_PL_isFixed, e_PL_isFixed_0, k_PL_isFixed_0, e_PL_isFixed_1, k_PL_isFixed_1, e_PL_isFixed_2, k_PL_isFixed_2, rr, sh, Nat.reduceLT, Nat.reduceMul, Int.reduceToNat, Int.reduceGT, Int.reduceGE, Int.reduceNe, true_and, and_true, true_or, or_true, false_or, or_false, and_self, or_self, if_true, if_false, reduceIte, not_true_eq_false, not_false_eq_true, Int.reduceEq, Int.reduceNe, Int.reduceLT, Int.reduceLE, Int.reduceAdd, Int.reduceSub, Int.reduceMul, Int.reduceNeg, Nat.reduceAdd, Nat.reduceLeDiff, Nat.reduceEqDiff, ne_eq, List.length_cons, List.length_nil, Nat.reduceSub, x1, h4, h5, w1, w2, w4]
    exact hQ
theorem svC_eq {f g k : Nat} (h0 : 0 ≤ P 94 k ∧ P 94 k ≤ 2) (hf : f.testBit k = decide (P 94 k = 1)) (hg : g.testBit k = decide (P 94 k = 2)) : svC f g k = if rgB P k = true then 1 else 0 := by
  unfold svC rgB
  rw [Nat.testBit_or, hf, hg]
  by_cases c0 : P 94 k = 0
  · rw [c0, if_pos rfl]
    rw [if_neg (by decide)]
    by_cases o : k % 2 = 1
    · rw [o, if_pos (by decide)]; rfl
    · have : k % 2 = 0 := by omega
      rw [this, if_neg (by decide)]; rfl
  · rw [if_neg c0]
    by_cases c1 : P 94 k = 1
    · rw [c1]; rfl
    · have c2 : P 94 k = 2 := by omega
      rw [c2]; rfl
def sBD (a b : Int) : Bool := decide (a = 18) || (decide (a = 19) || (decide (a = 4) && (decide (b = 0) || (decide (b = 3) || (decide (b = 4) || decide (b = 11))))))
set_option maxRecDepth 20000 in
theorem c_board (hp : p = 5 ∨ p = 25) (hP : Ptr H) (hB : TxB P) (hL : PlT P H p)
    (hQ : ∀ H', Fx sBD H H' → H' 4 0 = p → H' 4 3 = 0 → H' 4 4 = 0 → H' 4 11 = 0 → (∀ i : Nat, i < 12 → H' 18 i = siT P i ∧ (i < sTx P → H' 19 i = if rgB P i = true then 1 else 0)) → Q vu H') : CC (d + 3) CW_board [va 4, va p] H Q := by
  have x1 : shc p = 5 := by rcases hp with rfl | rfl <;> rfl
  have p1 : H 4 1 = 18 := hP (4, 1, 18) (by decide +kernel)
  have p2 : H 4 2 = 19 := hP (4, 2, 19) (by decide +kernel)
  obtain ⟨⟨a0, a6, -⟩, -, ⟨f, g, f1, f2, f3, f4, f5⟩, -⟩ := hL
  have s12 := hB.1.2
  have r12 := hB.2.1.2
  have hfix := hB.2.2.2.2.2.2.1
  have n12 : 2 ^ sTx P ≤ 4096 := Nat.pow_le_pow_right (n := 2) (j := 12) (by decide) s12
  have hf := Nat.lt_of_lt_of_le f3 n12
  have hg := Nat.lt_of_lt_of_le f4 n12
  have pn : p ≠ 4 ∧ p ≠ 18 ∧ p ≠ 19 := by rcases hp with rfl | rfl <;> decide
  have lp : ∀ k : Nat, k ≤ 12 → ∀ Z, BdW P (hs H 4 0 p) Z k → R (d + 3) CW_board (blk CW_board 1) [va 4, va p, vi k] [] Z Q := by
    intro k hk
    refine up_nat (P := fun k => ∀ Z, BdW P (hs H 4 0 p) Z k → R (d + 3) CW_board (blk CW_board 1) [va 4, va p, vi k] [] Z Q) (n := 12) ?_ ?_ k hk
    · intro Z hZ
      have z4 : Z 4 = hs H 4 0 p 4 := hZ.1 4 (by decide) (by decide)
      have := hQ (hs (hs (hs Z 4 3 0) 4 4 0) 4 11 0) (fun a b q => ?_) ?_ ?_ ?_ hs_same (fun i hi => ?_)
      · rw [e_CW_board_1]
        simp only [k_CW_board_1, e_CW_board_4, k_CW_board_4, rr, sh, Nat.reduceLT, Nat.reduceMul, Int.reduceToNat, Int.reduceGT, Int.reduceGE, Int.reduceNe, true_and, and_true, true_or, or_true, false_or, or_false, and_self, or_self, if_true, if_false, reduceIte, not_true_eq_false, not_false_eq_true, Int.reduceEq, Int.reduceNe, Int.reduceLT, Int.reduceLE, Int.reduceAdd, Int.reduceSub, Int.reduceMul, Int.reduceNeg, Nat.reduceAdd, Nat.reduceLeDiff, Nat.reduceEqDiff, ne_eq, List.length_cons, List.length_nil, Nat.reduceSub, show (12 : Int) ≤ ((12 : Nat) : Int) by decide]
        exact this
      · have q1 : a ≠ 18 := fun z => by rw [z] at q; cases q
        have q2 : a ≠ 19 := fun z => by rw [z] at q; cases q
        by_cases q4 : a = 4
        · subst q4
          have b0 : b ≠ 0 := fun z => by rw [z] at q; cases q
          have b3 : b ≠ 3 := fun z => by rw [z] at q; cases q
          have b4 : b ≠ 4 := fun z => by rw [z] at q; cases q
          have b11 : b ≠ 11 := fun z => by rw [z] at q; cases q
          rw [hs2 (fun z => b11 z.2), hs2 (fun z => b4 z.2), hs2 (fun z => b3 z.2), z4, hs2 (fun z => b0 z.2)]
        · rw [hs_ne' q4, hs_ne' q4, hs_ne' q4, hZ.1 a q1 q2, hs_ne' q4]
      · rw [hs2 (by decide), hs2 (by decide), hs2 (by decide), z4]; exact hs_same
      · rw [hs2 (by decide), hs2 (by decide)]; exact hs_same
      · rw [hs2 (by decide)]; exact hs_same
      · rw [hs_ne' (by decide), hs_ne' (by decide), hs_ne' (by decide), hs_ne' (by decide), hs_ne' (by decide), hs_ne' (by decide)]
        exact hZ.2 i hi
    · intro k hk ih Z hZ
      have z4 : Z 4 = hs H 4 0 p 4 := hZ.1 4 (by decide) (by decide)
      have zp : Z p = H p := (hZ.1 p pn.2.1 pn.2.2).trans (hs_ne pn.1)
      have z1 : Z 4 1 = 18 := by rw [z4]; exact (hs2 (by decide)).trans p1
      have z2 : Z 4 2 = 19 := by rw [z4]; exact (hs2 (by decide)).trans p2
      have c0 : ¬ (12 : Int) ≤ (k : Int) := il_n hk
      have j0 : 0 ≤ (k : Int) ∧ (k : Int) < 12 := ix_n hk
      have y4 : ∀ v, hs Z 18 k v p 4 = f := fun v => by rw [hs_ne' pn.2.1, zp]; exact f1
      have y5 : ∀ v, hs Z 18 k v p 5 = g := fun v => by rw [hs_ne' pn.2.1, zp]; exact f2
      have qs : ∀ {Q : AV → Hp → Prop} (v : Int), CC (d + 2) PL_sideAtFirst [va p, vi k] (hs Z 18 k v) Q = Q (vi (svC f g k)) (hs Z 18 k v) := fun {Q} v => q_sideAtFirst (d := d + 1) x1 (y4 v) (y5 v) hf hg hk
      have kw := w32_s (n := k) (Nat.lt_trans hk (by decide))
      have mn : min (sTx P : Int) (rTx P : Int) = ((min (sTx P) (rTx P) : Nat) : Int) := by clear ih hQ hfix f5 qs kw; omega
      have gg : ∀ v : Int, v = siT P k → R (d + 3) CW_board (blk CW_board 1) [va 4, va p, vi ((k + 1 : Nat) : Int)] [] (hs (hs Z 18 k v) 19 k (svC f g k)) Q := fun v hv => ih _ (hZ.put hv (fun hk2 => svC_eq (hfix k hk2) (f5 k hk2).1 (f5 k hk2).2))
      clear ih hQ
      rw [e_CW_board_1]
      by_cases c : k < min (sTx P) (rTx P)
      · have c1 : ¬ ((min (sTx P) (rTx P) : Nat) : Int) ≤ (k : Int) := il_n c
        have := gg k (by unfold siT; rw [if_pos ⟨Nat.lt_of_lt_of_le c (Nat.min_le_left _ _), Nat.lt_of_lt_of_le c (Nat.min_le_right _ _)⟩])
        simp only [k_CW_board_1, e_CW_board_2, k_CW_board_2, e_CW_board_3, k_CW_board_3, en_PL_seatedAtFirst, e_PL_seatedAtFirst_0, k_PL_seatedAtFirst_0, rr, sh, Nat.reduceLT, Nat.reduceMul, Int.reduceToNat, Int.reduceGT, Int.reduceGE, Int.reduceNe, true_and, and_true, true_or, or_true, false_or, or_false, and_self, or_self, if_true, if_false, reduceIte, not_true_eq_false, not_false_eq_true, Int.reduceEq, Int.reduceNe, Int.reduceLT, Int.reduceLE, Int.reduceAdd, Int.reduceSub, Int.reduceMul, Int.reduceNeg, Nat.reduceAdd, Nat.reduceLeDiff, Nat.reduceEqDiff, ne_eq, List.length_cons, List.length_nil, Nat.reduceSub, hs_app, false_and, and_false, x1, z1, z2, zp, a0, a6, q_minI, mn, c0, c1, j0, qs, kw]
        exact this
      · have c1 : ((min (sTx P) (rTx P) : Nat) : Int) ≤ (k : Int) := il_y (Nat.not_lt.mp c)
        have := gg (-1) (by unfold siT; rw [if_neg (fun z => c (Nat.lt_min.mpr z))])
        simp only [k_CW_board_1, e_CW_board_2, k_CW_board_2, e_CW_board_3, k_CW_board_3, en_PL_seatedAtFirst, e_PL_seatedAtFirst_0, k_PL_seatedAtFirst_0, rr, sh, Nat.reduceLT, Nat.reduceMul, Int.reduceToNat, Int.reduceGT, Int.reduceGE, Int.reduceNe, true_and, and_true, true_or, or_true, false_or, or_false, and_self, or_self, if_true, if_false, reduceIte, not_true_eq_false, not_false_eq_true, Int.reduceEq, Int.reduceNe, Int.reduceLT, Int.reduceLE, Int.reduceAdd, Int.reduceSub, Int.reduceMul, Int.reduceNeg, Nat.reduceAdd, Nat.reduceLeDiff, Nat.reduceEqDiff, ne_eq, List.length_cons, List.length_nil, Nat.reduceSub, hs_app, false_and, and_false, x1, z1, z2, zp, a0, a6, q_minI, mn, c0, c1, j0, qs, kw]
        exact this
  have := lp 0 (Nat.zero_le _) _ ⟨fun _ _ _ => rfl, fun i hi => absurd hi (Nat.not_lt_zero i)⟩
  simp only [en_CW_board, e_CW_board_0, k_CW_board_0, rr, sh, Nat.reduceLT, Nat.reduceMul, Int.reduceToNat, Int.reduceGT, Int.reduceGE, Int.reduceNe, true_and, and_true, true_or, or_true, false_or, or_false, and_self, or_self, if_true, if_false, reduceIte, not_true_eq_false, not_false_eq_true, Int.reduceEq, Int.reduceNe, Int.reduceLT, Int.reduceLE, Int.reduceAdd, Int.reduceSub, Int.reduceMul, Int.reduceNeg, Nat.reduceAdd, Nat.reduceLeDiff, Nat.reduceEqDiff, ne_eq, List.length_cons, List.length_nil, Nat.reduceSub]
  exact this
end PV
