/-! THE BOAT'S TEXT: who sits where, the sides; the reference -/
/-- whether a seat rows to the right at first -/
def rgB (P : Hp) (k : Nat) : Bool := if P 94 k = 0 then decide (k % 2 = 1) else decide (P 94 k = 2)
def sdB (P : Hp) : Nat → Nat
  | 0 => 0
  | n + 1 => if n < sTx P ∧ rgB P n = true then sdB P n ||| 1 * 2 ^ n else sdB P n
theorem sdB_tb {P : Hp} : ∀ n j : Nat, (sdB P n).testBit j = (decide (j < n) && (decide (j < sTx P) && rgB P j))
  | 0, j => by show (0 : Nat).testBit j = _; rw [Nat.zero_testBit]; simp
  | n + 1, j => by
    show (if n < sTx P ∧ rgB P n = true then sdB P n ||| 1 * 2 ^ n else sdB P n).testBit j = _
    by_cases c : n < sTx P ∧ rgB P n = true
    · rw [if_pos c, tb_or, sdB_tb n j]
      by_cases e : n = j
      · subst e; rw [show decide (n = n) = true from decide_eq_true rfl, Bool.or_true, decide_eq_true (Nat.lt_succ_self n), decide_eq_true c.1, c.2]; rfl
      · rw [show decide (n = j) = false from decide_eq_false e, Bool.or_false, show decide (j < n + 1) = decide (j < n) from decide_eq_decide.mpr (by omega)]
    · rw [if_neg c, sdB_tb n j]
      by_cases e : n = j
      · subst e
        have : (decide (n < sTx P) && rgB P n) = false := by
          cases h1 : decide (n < sTx P) with
          | false => rfl
          | true =>
            cases h2 : rgB P n with
            | false => rfl
            | true => exact absurd ⟨of_decide_eq_true h1, h2⟩ c
        rw [this, Bool.and_false, Bool.and_false]
      · rw [show decide (j < n + 1) = decide (j < n) from decide_eq_decide.mpr (by omega)]
theorem sdB_lt {P : Hp} {n : Nat} : sdB P n < 2 ^ sTx P := by
  refine Nat.lt_pow_two_of_testBit _ fun i hi => ?_
  rw [sdB_tb, decide_eq_false (show ¬ i < sTx P by omega), Bool.false_and, Bool.and_false]
def siT (P : Hp) (k : Nat) : Int := if k < sTx P ∧ k < rTx P then (k : Int) else -1
/-- the heap of the seats' loop, k of them done -/
def SwW (P Y Z : Hp) (k : Nat) : Prop := (∀ a : Int, a ≠ 71 → a ≠ 107 → Z a = Y a) ∧ (∀ b : Int, (b ≠ 46 ∧ b ≠ 47 ∧ b ≠ 48 ∧ b ≠ 49 ∧ b ≠ 55) → Z 71 b = Y 71 b) ∧ (Z 71 46 = 1 ∧ Z 71 47 = 0 ∧ Z 71 48 = 0 ∧ Z 71 49 = (sdB P k : Int)) ∧ ∀ i : Nat, i < k → Z 107 i = siT P i
section PU
variable {d : Nat} {P H Y : Hp} {Q : AV → Hp → Prop}
theorem SwW.put0 {Z : Hp} {k : Nat} {v : Int} (h : SwW P Y Z k) (hv : v = siT P k) (hs' : sdB P (k + 1) = sdB P k) : SwW P Y (hs Z 107 k v) (k + 1) := by
  refine ⟨fun a h1 h2 => (hs_ne h2).trans (h.1 a h1 h2), fun b hb => (hs_ne' (by decide)).trans (h.2.1 b hb), ⟨(hs_ne' (by decide)).trans h.2.2.1.1, (hs_ne' (by decide)).trans h.2.2.1.2.1, (hs_ne' (by decide)).trans h.2.2.1.2.2.1, ?_⟩, fun i hi => ?_⟩
  · rw [hs_ne' (by decide), h.2.2.1.2.2.2, hs']
  · rw [hs_at, at_z]
    by_cases c : i = k
    · rw [if_pos c, c, hv]
    · rw [if_neg c]; exact h.2.2.2 i (lt_sN hi c)
theorem SwW.put1 {Z : Hp} {k : Nat} {v x : Int} (h : SwW P Y Z k) (hv : v = siT P k) (hx : x = (sdB P (k + 1) : Int)) : SwW P Y (hs (hs Z 107 k v) 71 49 x) (k + 1) := by
  refine ⟨fun a h1 h2 => (hs_ne h1).trans ((hs_ne h2).trans (h.1 a h1 h2)), fun b hb => (hs2 (fun z => hb.2.2.2.1 z.2)).trans ((hs_ne' (by decide)).trans (h.2.1 b hb)), ⟨?_, ?_, ?_, hs_same.trans hx⟩, fun i hi => ?_⟩
  · exact (hs2 (by decide)).trans ((hs_ne' (by decide)).trans h.2.2.1.1)
  · exact (hs2 (by decide)).trans ((hs_ne' (by decide)).trans h.2.2.1.2.1)
  · exact (hs2 (by decide)).trans ((hs_ne' (by decide)).trans h.2.2.1.2.2.1)
  · rw [hs_ne' (by decide), hs_at, at_z]
    by_cases c : i = k
    · rw [if_pos c, c, hv]
    · rw [if_neg c]; exact h.2.2.2 i (lt_sN hi c)
theorem tm2 : ∀ k : Nat, k < 12 → w32 (Int.tmod (k : Int) 2) = ((k % 2 : Nat) : Int) := by decide
/-- what stands behind a text, the reference -/
def StdW (P H Z : Hp) : Prop := ∃ Y, CpW H Y (limF 4 12 1 4 96 8) ∧ (∀ a : Int, a ≠ 71 → a ≠ 107 → Z a = Y a) ∧ (∀ b : Int, (b ≠ 46 ∧ b ≠ 47 ∧ b ≠ 48 ∧ b ≠ 49 ∧ b ≠ 55) → Z 71 b = Y 71 b) ∧ (Z 71 46 = 1 ∧ Z 71 47 = 0 ∧ Z 71 48 = 0 ∧ Z 71 49 = (sdB P 12 : Int) ∧ Z 71 55 = 0) ∧ ∀ i : Nat, i < 12 → Z 107 i = siT P i
set_option maxRecDepth 20000 in
theorem c_stands (hP : Ptr H) (hB : TxB P) (hL : TmP P H) (hQ : ∀ Z, StdW P H Z → Q vu Z) : CC (d + 1) MO_stands [va 71] H Q := by
  have f := mo_f hP
  have p50 : H 71 50 = 107 := hP (71, 50, 107) (by decide +kernel)
  refine c_halves hP (fun Y hY => ?_)
  have y71 : Y 71 = H 71 := hY.c rfl
  have e50 : Y 71 50 = 107 := by rw [y71]; exact p50
  have e29 : Y 71 29 = 91 := by rw [y71]; exact hP (71, 29, 91) (by decide +kernel)
  have e32 : Y 71 32 = 94 := by rw [y71]; exact hP (71, 32, 94) (by decide +kernel)
  have e4 : Y 91 4 = sTx P := (hY.hi (a := 91) (k := 0) (b := 4) (by decide) rfl).trans ((hL 91 0 rfl).trans hB.1.1)
  have e5 : Y 91 5 = rTx P := (hY.hi (a := 91) (k := 1) (b := 5) (by decide) rfl).trans ((hL 91 1 rfl).trans hB.2.1.1)
  have e94 : ∀ k : Nat, k < 12 → Y 94 ((12 + k : Nat) : Int) = P 94 k := fun k hk => (hY.hi (a := 94) (k := k) (b := ((12 + k : Nat) : Int)) hk (by show ((12 + k : Nat) : Int) = 12 + (k : Int); omega)).trans (hL 94 k (fh12 (by decide) hk))
  have s12 := hB.1.2
  have hfix := hB.2.2.2.2.2.2.1
  have S0 : SwW P Y (hs (hs (hs (hs Y 71 46 1) 71 47 0) 71 48 0) 71 49 0) 0 := by
    refine ⟨fun a h1 h2 => by rw [hs_ne h1, hs_ne h1, hs_ne h1, hs_ne h1], fun b hb => by rw [hs2 (fun z => hb.2.2.2.1 z.2), hs2 (fun z => hb.2.2.1 z.2), hs2 (fun z => hb.2.1 z.2), hs2 (fun z => hb.1 z.2)], ⟨?_, ?_, ?_, hs_same⟩, fun i hi => absurd hi (Nat.not_lt_zero i)⟩
    · simp only [hs_app, Int.reduceEq, Int.reduceAdd, and_false, false_and, and_true, true_and, if_false, if_true, reduceIte, eq_self, and_self]
    · simp only [hs_app, Int.reduceEq, Int.reduceAdd, and_false, false_and, and_true, true_and, if_false, if_true, reduceIte, eq_self, and_self]
    · simp only [hs_app, Int.reduceEq, Int.reduceAdd, and_false, false_and, and_true, true_and, if_false, if_true, reduceIte, eq_self, and_self]
  simp only [e_MO_stands_10, k_MO_stands_10, rr, sh, Nat.reduceLT, Nat.reduceMul, Int.reduceToNat, Int.reduceGT, Int.reduceGE, Int.reduceNe, true_and, and_true, true_or, or_true, false_or, or_false, and_self, or_self, if_true, if_false, reduceIte, not_true_eq_false, not_false_eq_true, Int.reduceEq, Int.reduceNe, Int.reduceLT, Int.reduceLE, Int.reduceAdd, Int.reduceSub, Int.reduceMul, Int.reduceNeg, Nat.reduceAdd, Nat.reduceLeDiff, Nat.reduceEqDiff, ne_eq, List.length_cons, List.length_nil, Nat.reduceSub]
  clear f
  have lp : ∀ k : Nat, k ≤ 12 → ∀ (Z : Hp) (y : AV), (y = vu ∨ ∃ v, y = vi v) → SwW P Y Z k → R (d + 1) MO_stands (blk MO_stands 11) [va 71, vi k, y] [] Z Q := by
    intro k hk
    refine up_nat (P := fun k => ∀ (Z : Hp) (y : AV), (y = vu ∨ ∃ v, y = vi v) → SwW P Y Z k → R (d + 1) MO_stands (blk MO_stands 11) [va 71, vi k, y] [] Z Q) (n := 12) ?_ ?_ k hk
    · intro Z y _ hZ
      have := hQ (hs Z 71 55 0) ⟨Y, hY, fun a h1 h2 => (hs_ne h1).trans (hZ.1 a h1 h2), fun b hb => (hs2 (fun z => hb.2.2.2.2 z.2)).trans (hZ.2.1 b hb), ⟨(hs2 (by decide)).trans hZ.2.2.1.1, (hs2 (by decide)).trans hZ.2.2.1.2.1, (hs2 (by decide)).trans hZ.2.2.1.2.2.1, (hs2 (by decide)).trans hZ.2.2.1.2.2.2, hs_same⟩, fun i hi => (hs_ne' (by decide)).trans (hZ.2.2.2 i hi)⟩
      rw [e_MO_stands_11]
      simp only [k_MO_stands_11, e_MO_stands_19, k_MO_stands_19, rr, sh, Nat.reduceLT, Nat.reduceMul, Int.reduceToNat, Int.reduceGT, Int.reduceGE, Int.reduceNe, true_and, and_true, true_or, or_true, false_or, or_false, and_self, or_self, if_true, if_false, reduceIte, not_true_eq_false, not_false_eq_true, Int.reduceEq, Int.reduceNe, Int.reduceLT, Int.reduceLE, Int.reduceAdd, Int.reduceSub, Int.reduceMul, Int.reduceNeg, Nat.reduceAdd, Nat.reduceLeDiff, Nat.reduceEqDiff, ne_eq, List.length_cons, List.length_nil, Nat.reduceSub, show (12 : Int) ≤ ((12 : Nat) : Int) by decide]
      exact this
    · intro k hk ih Z y hy hZ
      have z29 : Z 71 29 = 91 := (hZ.2.1 29 (by decide)).trans e29
      have z32 : Z 71 32 = 94 := (hZ.2.1 32 (by decide)).trans e32
      have z50 : Z 71 50 = 107 := (hZ.2.1 50 (by decide)).trans e50
      have z4 : Z 91 4 = sTx P := by rw [hZ.1 91 (by decide) (by decide)]; exact e4
      have z5 : Z 91 5 = rTx P := by rw [hZ.1 91 (by decide) (by decide)]; exact e5
      have z94 : Z 94 ((12 + k : Nat) : Int) = P 94 k := by rw [hZ.1 94 (by decide) (by decide)]; exact e94 k hk
      have z49 := hZ.2.2.1.2.2.2
      have c0 : ¬ (12 : Int) ≤ (k : Int) := il_n hk
      have j0 : 0 ≤ (k : Int) ∧ (k : Int) < 12 := ix_n hk
      have b1 : 12 + k < 24 := by clear ih; omega
      have j1 : 0 ≤ ((12 + k : Nat) : Int) ∧ ((12 + k : Nat) : Int) < 24 := ix_n b1
      have w1 := w_c (c := 12) (k := k) (Nat.lt_trans b1 (by decide)) (c' := 12) rfl
      have kw := w32_s (n := k) (Nat.lt_trans hk (by decide))
      have wt := tm2 k hk
      have sl : sdB P k < 4096 := Nat.lt_of_lt_of_le sdB_lt (Nat.pow_le_pow_right (n := 2) (j := 12) (by decide) s12)
      have p2 : 1 * 2 ^ k < 4096 := by rw [Nat.one_mul]; exact Nat.pow_lt_pow_right (a := 2) (n := 12) (by decide) hk
      have ws : b_shl 1 (k : Int) = ((1 * 2 ^ k : Nat) : Int) := b_shl_nat (a := 1) (Nat.lt_trans hk (by decide)) (Nat.lt_trans p2 (by decide))
      have wo : b_or (sdB P k : Int) ((1 * 2 ^ k : Nat) : Int) = ((sdB P k ||| 1 * 2 ^ k : Nat) : Int) := b_or_nat (Nat.lt_trans sl (by decide)) (Nat.lt_trans p2 (by decide))
      have no : ¬ (k < sTx P ∧ rgB P k = true) → sdB P (k + 1) = sdB P k := fun z => if_neg z
      have yes : (k < sTx P ∧ rgB P k = true) → ((sdB P k ||| 1 * 2 ^ k : Nat) : Int) = (sdB P (k + 1) : Int) := fun z => by
        show _ = (((if k < sTx P ∧ rgB P k = true then sdB P k ||| 1 * 2 ^ k else sdB P k) : Nat) : Int)
        rw [if_pos z]
      have g0 : ∀ v : Int, v = siT P k → ¬ (k < sTx P ∧ rgB P k = true) → R (d + 1) MO_stands (blk MO_stands 11) [va 71, vi ((k + 1 : Nat) : Int), vi 0] [] (hs Z 107 k v) Q := fun v hv z => ih _ _ (Or.inr ⟨0, rfl⟩) (hZ.put0 hv (no z))
      have g1 : ∀ v : Int, v = siT P k → (k < sTx P ∧ rgB P k = true) → R (d + 1) MO_stands (blk MO_stands 11) [va 71, vi ((k + 1 : Nat) : Int), vi 1] [] (hs (hs Z 107 k v) 71 49 ((sdB P k ||| 1 * 2 ^ k : Nat) : Int)) Q := fun v hv z => ih _ _ (Or.inr ⟨1, rfl⟩) (hZ.put1 hv (yes z))
      clear ih hQ no yes sl p2
      rw [e_MO_stands_11]
      by_cases h1 : k < sTx P
      · have c1 : ¬ (sTx P : Int) ≤ (k : Int) := il_n h1
        have hf := hfix k h1
        by_cases h2 : k < rTx P
        · have c2 : ¬ (rTx P : Int) ≤ (k : Int) := il_n h2
          have hv : (k : Int) = siT P k := by unfold siT; rw [if_pos ⟨h1, h2⟩]
          by_cases f0 : P 94 k = 0
          · by_cases o : k % 2 = 1
            · have o' : ((k % 2 : Nat) : Int) = 1 := by rw [o]; rfl
              have := g1 _ hv ⟨h1, by unfold rgB; rw [if_pos f0, decide_eq_true o]⟩
              rcases hy with rfl | ⟨v', rfl⟩
              · simp only [k_MO_stands_11, e_MO_stands_12, k_MO_stands_12, e_MO_stands_13, k_MO_stands_13, e_MO_stands_14, k_MO_stands_14, e_MO_stands_15, k_MO_stands_15, e_MO_stands_16, k_MO_stands_16, e_MO_stands_17, k_MO_stands_17, e_MO_stands_18, k_MO_stands_18, en_MO_seats, e_MO_seats_0, k_MO_seats_0, en_MO_rowers, e_MO_rowers_0, k_MO_rowers_0, rr, sh, Nat.reduceLT, Nat.reduceMul, Int.reduceToNat, Int.reduceGT, Int.reduceGE, Int.reduceNe, true_and, and_true, true_or, or_true, false_or, or_false, and_self, or_self, if_true, if_false, reduceIte, not_true_eq_false, not_false_eq_true, Int.reduceEq, Int.reduceNe, Int.reduceLT, Int.reduceLE, Int.reduceAdd, Int.reduceSub, Int.reduceMul, Int.reduceNeg, Nat.reduceAdd, Nat.reduceLeDiff, Nat.reduceEqDiff, ne_eq, List.length_cons, List.length_nil, Nat.reduceSub, hs_app, false_and, and_false, z29, z32, z50, z4, z5, z94, z49, c0, c1, j0, j1, w1, kw, wt, ws, wo, f0, o', c2]
                exact this
              · simp only [k_MO_stands_11, e_MO_stands_12, k_MO_stands_12, e_MO_stands_13, k_MO_stands_13, e_MO_stands_14, k_MO_stands_14, e_MO_stands_15, k_MO_stands_15, e_MO_stands_16, k_MO_stands_16, e_MO_stands_17, k_MO_stands_17, e_MO_stands_18, k_MO_stands_18, en_MO_seats, e_MO_seats_0, k_MO_seats_0, en_MO_rowers, e_MO_rowers_0, k_MO_rowers_0, rr, sh, Nat.reduceLT, Nat.reduceMul, Int.reduceToNat, Int.reduceGT, Int.reduceGE, Int.reduceNe, true_and, and_true, true_or, or_true, false_or, or_false, and_self, or_self, if_true, if_false, reduceIte, not_true_eq_false, not_false_eq_true, Int.reduceEq, Int.reduceNe, Int.reduceLT, Int.reduceLE, Int.reduceAdd, Int.reduceSub, Int.reduceMul, Int.reduceNeg, Nat.reduceAdd, Nat.reduceLeDiff, Nat.reduceEqDiff, ne_eq, List.length_cons, List.length_nil, Nat.reduceSub, hs_app, false_and, and_false, z29, z32, z50, z4, z5, z94, z49, c0, c1, j0, j1, w1, kw, wt, ws, wo, f0, o', c2]
                exact this
            · have o' : ¬ ((k % 2 : Nat) : Int) = 1 := fun z => o (Int.ofNat_inj.mp (z : ((k % 2 : Nat) : Int) = ((1 : Nat) : Int)))
              have := g0 _ hv (fun z => by have := z.2; unfold rgB at this; rw [if_pos f0, decide_eq_false o] at this; cases this)
              rcases hy with rfl | ⟨v', rfl⟩
              · simp only [k_MO_stands_11, e_MO_stands_12, k_MO_stands_12, e_MO_stands_13, k_MO_stands_13, e_MO_stands_14, k_MO_stands_14, e_MO_stands_15, k_MO_stands_15, e_MO_stands_16, k_MO_stands_16, e_MO_stands_17, k_MO_stands_17, e_MO_stands_18, k_MO_stands_18, en_MO_seats, e_MO_seats_0, k_MO_seats_0, en_MO_rowers, e_MO_rowers_0, k_MO_rowers_0, rr, sh, Nat.reduceLT, Nat.reduceMul, Int.reduceToNat, Int.reduceGT, Int.reduceGE, Int.reduceNe, true_and, and_true, true_or, or_true, false_or, or_false, and_self, or_self, if_true, if_false, reduceIte, not_true_eq_false, not_false_eq_true, Int.reduceEq, Int.reduceNe, Int.reduceLT, Int.reduceLE, Int.reduceAdd, Int.reduceSub, Int.reduceMul, Int.reduceNeg, Nat.reduceAdd, Nat.reduceLeDiff, Nat.reduceEqDiff, ne_eq, List.length_cons, List.length_nil, Nat.reduceSub, hs_app, false_and, and_false, z29, z32, z50, z4, z5, z94, z49, c0, c1, j0, j1, w1, kw, wt, ws, wo, f0, o', c2]
                exact this
              · simp only [k_MO_stands_11, e_MO_stands_12, k_MO_stands_12, e_MO_stands_13, k_MO_stands_13, e_MO_stands_14, k_MO_stands_14, e_MO_stands_15, k_MO_stands_15, e_MO_stands_16, k_MO_stands_16, e_MO_stands_17, k_MO_stands_17, e_MO_stands_18, k_MO_stands_18, en_MO_seats, e_MO_seats_0, k_MO_seats_0, en_MO_rowers, e_MO_rowers_0, k_MO_rowers_0, rr, sh, Nat.reduceLT, Nat.reduceMul, Int.reduceToNat, Int.reduceGT, Int.reduceGE, Int.reduceNe, true_and, and_true, true_or, or_true, false_or, or_false, and_self, or_self, if_true, if_false, reduceIte, not_true_eq_false, not_false_eq_true, Int.reduceEq, Int.reduceNe, Int.reduceLT, Int.reduceLE, Int.reduceAdd, Int.reduceSub, Int.reduceMul, Int.reduceNeg, Nat.reduceAdd, Nat.reduceLeDiff, Nat.reduceEqDiff, ne_eq, List.length_cons, List.length_nil, Nat.reduceSub, hs_app, false_and, and_false, z29, z32, z50, z4, z5, z94, z49, c0, c1, j0, j1, w1, kw, wt, ws, wo, f0, o', c2]
                exact this
          · by_cases f2 : P 94 k = 2
            · have := g1 _ hv ⟨h1, by unfold rgB; rw [if_neg f0, decide_eq_true f2]⟩
              rcases hy with rfl | ⟨v', rfl⟩
              · simp only [k_MO_stands_11, e_MO_stands_12, k_MO_stands_12, e_MO_stands_13, k_MO_stands_13, e_MO_stands_14, k_MO_stands_14, e_MO_stands_15, k_MO_stands_15, e_MO_stands_16, k_MO_stands_16, e_MO_stands_17, k_MO_stands_17, e_MO_stands_18, k_MO_stands_18, en_MO_seats, e_MO_seats_0, k_MO_seats_0, en_MO_rowers, e_MO_rowers_0, k_MO_rowers_0, rr, sh, Nat.reduceLT, Nat.reduceMul, Int.reduceToNat, Int.reduceGT, Int.reduceGE, Int.reduceNe, true_and, and_true, true_or, or_true, false_or, or_false, and_self, or_self, if_true, if_false, reduceIte, not_true_eq_false, not_false_eq_true, Int.reduceEq, Int.reduceNe, Int.reduceLT, Int.reduceLE, Int.reduceAdd, Int.reduceSub, Int.reduceMul, Int.reduceNeg, Nat.reduceAdd, Nat.reduceLeDiff, Nat.reduceEqDiff, ne_eq, List.length_cons, List.length_nil, Nat.reduceSub, hs_app, false_and, and_false, z29, z32, z50, z4, z5, z94, z49, c0, c1, j0, j1, w1, kw, wt, ws, wo, f2, c2]
                exact this
              · simp only [k_MO_stands_11, e_MO_stands_12, k_MO_stands_12, e_MO_stands_13, k_MO_stands_13, e_MO_stands_14, k_MO_stands_14, e_MO_stands_15, k_MO_stands_15, e_MO_stands_16, k_MO_stands_16, e_MO_stands_17, k_MO_stands_17, e_MO_stands_18, k_MO_stands_18, en_MO_seats, e_MO_seats_0, k_MO_seats_0, en_MO_rowers, e_MO_rowers_0, k_MO_rowers_0, rr, sh, Nat.reduceLT, Nat.reduceMul, Int.reduceToNat, Int.reduceGT, Int.reduceGE, Int.reduceNe, true_and, and_true, true_or, or_true, false_or, or_false, and_self, or_self, if_true, if_false, reduceIte, not_true_eq_false, not_false_eq_true, Int.reduceEq, Int.reduceNe, Int.reduceLT, Int.reduceLE, Int.reduceAdd, Int.reduceSub, Int.reduceMul, Int.reduceNeg, Nat.reduceAdd, Nat.reduceLeDiff, Nat.reduceEqDiff, ne_eq, List.length_cons, List.length_nil, Nat.reduceSub, hs_app, false_and, and_false, z29, z32, z50, z4, z5, z94, z49, c0, c1, j0, j1, w1, kw, wt, ws, wo, f2, c2]
                exact this
            · have := g0 _ hv (fun z => by have := z.2; unfold rgB at this; rw [if_neg f0, decide_eq_false f2] at this; cases this)
              rcases hy with rfl | ⟨v', rfl⟩
              · simp only [k_MO_stands_11, e_MO_stands_12, k_MO_stands_12, e_MO_stands_13, k_MO_stands_13, e_MO_stands_14, k_MO_stands_14, e_MO_stands_15, k_MO_stands_15, e_MO_stands_16, k_MO_stands_16, e_MO_stands_17, k_MO_stands_17, e_MO_stands_18, k_MO_stands_18, en_MO_seats, e_MO_seats_0, k_MO_seats_0, en_MO_rowers, e_MO_rowers_0, k_MO_rowers_0, rr, sh, Nat.reduceLT, Nat.reduceMul, Int.reduceToNat, Int.reduceGT, Int.reduceGE, Int.reduceNe, true_and, and_true, true_or, or_true, false_or, or_false, and_self, or_self, if_true, if_false, reduceIte, not_true_eq_false, not_false_eq_true, Int.reduceEq, Int.reduceNe, Int.reduceLT, Int.reduceLE, Int.reduceAdd, Int.reduceSub, Int.reduceMul, Int.reduceNeg, Nat.reduceAdd, Nat.reduceLeDiff, Nat.reduceEqDiff, ne_eq, List.length_cons, List.length_nil, Nat.reduceSub, hs_app, false_and, and_false, z29, z32, z50, z4, z5, z94, z49, c0, c1, j0, j1, w1, kw, wt, ws, wo, f0, f2, c2]
                exact this
              · simp only [k_MO_stands_11, e_MO_stands_12, k_MO_stands_12, e_MO_stands_13, k_MO_stands_13, e_MO_stands_14, k_MO_stands_14, e_MO_stands_15, k_MO_stands_15, e_MO_stands_16, k_MO_stands_16, e_MO_stands_17, k_MO_stands_17, e_MO_stands_18, k_MO_stands_18, en_MO_seats, e_MO_seats_0, k_MO_seats_0, en_MO_rowers, e_MO_rowers_0, k_MO_rowers_0, rr, sh, Nat.reduceLT, Nat.reduceMul, Int.reduceToNat, Int.reduceGT, Int.reduceGE, Int.reduceNe, true_and, and_true, true_or, or_true, false_or, or_false, and_self, or_self, if_true, if_false, reduceIte, not_true_eq_false, not_false_eq_true, Int.reduceEq, Int.reduceNe, Int.reduceLT, Int.reduceLE, Int.reduceAdd, Int.reduceSub, Int.reduceMul, Int.reduceNeg, Nat.reduceAdd, Nat.reduceLeDiff, Nat.reduceEqDiff, ne_eq, List.length_cons, List.length_nil, Nat.reduceSub, hs_app, false_and, and_false, z29, z32, z50, z4, z5, z94, z49, c0, c1, j0, j1, w1, kw, wt, ws, wo, f0, f2, c2]
                exact this
        · have c2 : (rTx P : Int) ≤ (k : Int) := il_y (Nat.not_lt.mp h2)
          have hv : (-1 : Int) = siT P k := by unfold siT; rw [if_neg (fun z => h2 z.2)]
          by_cases f0 : P 94 k = 0
          · by_cases o : k % 2 = 1
            · have o' : ((k % 2 : Nat) : Int) = 1 := by rw [o]; rfl
              have := g1 _ hv ⟨h1, by unfold rgB; rw [if_pos f0, decide_eq_true o]⟩
              rcases hy with rfl | ⟨v', rfl⟩
              · simp only [k_MO_stands_11, e_MO_stands_12, k_MO_stands_12, e_MO_stands_13, k_MO_stands_13, e_MO_stands_14, k_MO_stands_14, e_MO_stands_15, k_MO_stands_15, e_MO_stands_16, k_MO_stands_16, e_MO_stands_17, k_MO_stands_17, e_MO_stands_18, k_MO_stands_18, en_MO_seats, e_MO_seats_0, k_MO_seats_0, en_MO_rowers, e_MO_rowers_0, k_MO_rowers_0, rr, sh, Nat.reduceLT, Nat.reduceMul, Int.reduceToNat, Int.reduceGT, Int.reduceGE, Int.reduceNe, true_and, and_true, true_or, or_true, false_or, or_false, and_self, or_self, if_true, if_false, reduceIte, not_true_eq_false, not_false_eq_true, Int.reduceEq, Int.reduceNe, Int.reduceLT, Int.reduceLE, Int.reduceAdd, Int.reduceSub, Int.reduceMul, Int.reduceNeg, Nat.reduceAdd, Nat.reduceLeDiff, Nat.reduceEqDiff, ne_eq, List.length_cons, List.length_nil, Nat.reduceSub, hs_app, false_and, and_false, z29, z32, z50, z4, z5, z94, z49, c0, c1, j0, j1, w1, kw, wt, ws, wo, f0, o', c2]
                exact this
              · simp only [k_MO_stands_11, e_MO_stands_12, k_MO_stands_12, e_MO_stands_13, k_MO_stands_13, e_MO_stands_14, k_MO_stands_14, e_MO_stands_15, k_MO_stands_15, e_MO_stands_16, k_MO_stands_16, e_MO_stands_17, k_MO_stands_17, e_MO_stands_18, k_MO_stands_18, en_MO_seats, e_MO_seats_0, k_MO_seats_0, en_MO_rowers, e_MO_rowers_0, k_MO_rowers_0, rr, sh, Nat.reduceLT, Nat.reduceMul, Int.reduceToNat, Int.reduceGT, Int.reduceGE, Int.reduceNe, true_and, and_true, true_or, or_true, false_or, or_false, and_self, or_self, if_true, if_false, reduceIte, not_true_eq_false, not_false_eq_true, Int.reduceEq, Int.reduceNe, Int.reduceLT, Int.reduceLE, Int.reduceAdd, Int.reduceSub, Int.reduceMul, Int.reduceNeg, Nat.reduceAdd, Nat.reduceLeDiff, Nat.reduceEqDiff, ne_eq, List.length_cons, List.length_nil, Nat.reduceSub, hs_app, false_and, and_false, z29, z32, z50, z4, z5, z94, z49, c0, c1, j0, j1, w1, kw, wt, ws, wo, f0, o', c2]
                exact this
            · have o' : ¬ ((k % 2 : Nat) : Int) = 1 := fun z => o (Int.ofNat_inj.mp (z : ((k % 2 : Nat) : Int) = ((1 : Nat) : Int)))
              have := g0 _ hv (fun z => by have := z.2; unfold rgB at this; rw [if_pos f0, decide_eq_false o] at this; cases this)
              rcases hy with rfl | ⟨v', rfl⟩
              · simp only [k_MO_stands_11, e_MO_stands_12, k_MO_stands_12, e_MO_stands_13, k_MO_stands_13, e_MO_stands_14, k_MO_stands_14, e_MO_stands_15, k_MO_stands_15, e_MO_stands_16, k_MO_stands_16, e_MO_stands_17, k_MO_stands_17, e_MO_stands_18, k_MO_stands_18, en_MO_seats, e_MO_seats_0, k_MO_seats_0, en_MO_rowers, e_MO_rowers_0, k_MO_rowers_0, rr, sh, Nat.reduceLT, Nat.reduceMul, Int.reduceToNat, Int.reduceGT, Int.reduceGE, Int.reduceNe, true_and, and_true, true_or, or_true, false_or, or_false, and_self, or_self, if_true, if_false, reduceIte, not_true_eq_false, not_false_eq_true, Int.reduceEq, Int.reduceNe, Int.reduceLT, Int.reduceLE, Int.reduceAdd, Int.reduceSub, Int.reduceMul, Int.reduceNeg, Nat.reduceAdd, Nat.reduceLeDiff, Nat.reduceEqDiff, ne_eq, List.length_cons, List.length_nil, Nat.reduceSub, hs_app, false_and, and_false, z29, z32, z50, z4, z5, z94, z49, c0, c1, j0, j1, w1, kw, wt, ws, wo, f0, o', c2]
                exact this
              · simp only [k_MO_stands_11, e_MO_stands_12, k_MO_stands_12, e_MO_stands_13, k_MO_stands_13, e_MO_stands_14, k_MO_stands_14, e_MO_stands_15, k_MO_stands_15, e_MO_stands_16, k_MO_stands_16, e_MO_stands_17, k_MO_stands_17, e_MO_stands_18, k_MO_stands_18, en_MO_seats, e_MO_seats_0, k_MO_seats_0, en_MO_rowers, e_MO_rowers_0, k_MO_rowers_0, rr, sh, Nat.reduceLT, Nat.reduceMul, Int.reduceToNat, Int.reduceGT, Int.reduceGE, Int.reduceNe, true_and, and_true, true_or, or_true, false_or, or_false, and_self, or_self, if_true, if_false, reduceIte, not_true_eq_false, not_false_eq_true, Int.reduceEq, Int.reduceNe, Int.reduceLT, Int.reduceLE, Int.reduceAdd, Int.reduceSub, Int.reduceMul, Int.reduceNeg, Nat.reduceAdd, Nat.reduceLeDiff, Nat.reduceEqDiff, ne_eq, List.length_cons, List.length_nil, Nat.reduceSub, hs_app, false_and, and_false, z29, z32, z50, z4, z5, z94, z49, c0, c1, j0, j1, w1, kw, wt, ws, wo, f0, o', c2]
                exact this
          · by_cases f2 : P 94 k = 2
            · have := g1 _ hv ⟨h1, by unfold rgB; rw [if_neg f0, decide_eq_true f2]⟩
              rcases hy with rfl | ⟨v', rfl⟩
              · simp only [k_MO_stands_11, e_MO_stands_12, k_MO_stands_12, e_MO_stands_13, k_MO_stands_13, e_MO_stands_14, k_MO_stands_14, e_MO_stands_15, k_MO_stands_15, e_MO_stands_16, k_MO_stands_16, e_MO_stands_17, k_MO_stands_17, e_MO_stands_18, k_MO_stands_18, en_MO_seats, e_MO_seats_0, k_MO_seats_0, en_MO_rowers, e_MO_rowers_0, k_MO_rowers_0, rr, sh, Nat.reduceLT, Nat.reduceMul, Int.reduceToNat, Int.reduceGT, Int.reduceGE, Int.reduceNe, true_and, and_true, true_or, or_true, false_or, or_false, and_self, or_self, if_true, if_false, reduceIte, not_true_eq_false, not_false_eq_true, Int.reduceEq, Int.reduceNe, Int.reduceLT, Int.reduceLE, Int.reduceAdd, Int.reduceSub, Int.reduceMul, Int.reduceNeg, Nat.reduceAdd, Nat.reduceLeDiff, Nat.reduceEqDiff, ne_eq, List.length_cons, List.length_nil, Nat.reduceSub, hs_app, false_and, and_false, z29, z32, z50, z4, z5, z94, z49, c0, c1, j0, j1, w1, kw, wt, ws, wo, f2, c2]
                exact this
              · simp only [k_MO_stands_11, e_MO_stands_12, k_MO_stands_12, e_MO_stands_13, k_MO_stands_13, e_MO_stands_14, k_MO_stands_14, e_MO_stands_15, k_MO_stands_15, e_MO_stands_16, k_MO_stands_16, e_MO_stands_17, k_MO_stands_17, e_MO_stands_18, k_MO_stands_18, en_MO_seats, e_MO_seats_0, k_MO_seats_0, en_MO_rowers, e_MO_rowers_0, k_MO_rowers_0, rr, sh, Nat.reduceLT, Nat.reduceMul, Int.reduceToNat, Int.reduceGT, Int.reduceGE, Int.reduceNe, true_and, and_true, true_or, or_true, false_or, or_false, and_self, or_self, if_true, if_false, reduceIte, not_true_eq_false, not_false_eq_true, Int.reduceEq, Int.reduceNe, Int.reduceLT, Int.reduceLE, Int.reduceAdd, Int.reduceSub, Int.reduceMul, Int.reduceNeg, Nat.reduceAdd, Nat.reduceLeDiff, Nat.reduceEqDiff, ne_eq, List.length_cons, List.length_nil, Nat.reduceSub, hs_app, false_and, and_false, z29, z32, z50, z4, z5, z94, z49, c0, c1, j0, j1, w1, kw, wt, ws, wo, f2, c2]
                exact this
            · have := g0 _ hv (fun z => by have := z.2; unfold rgB at this; rw [if_neg f0, decide_eq_false f2] at this; cases this)
              rcases hy with rfl | ⟨v', rfl⟩
              · simp only [k_MO_stands_11, e_MO_stands_12, k_MO_stands_12, e_MO_stands_13, k_MO_stands_13, e_MO_stands_14, k_MO_stands_14, e_MO_stands_15, k_MO_stands_15, e_MO_stands_16, k_MO_stands_16, e_MO_stands_17, k_MO_stands_17, e_MO_stands_18, k_MO_stands_18, en_MO_seats, e_MO_seats_0, k_MO_seats_0, en_MO_rowers, e_MO_rowers_0, k_MO_rowers_0, rr, sh, Nat.reduceLT, Nat.reduceMul, Int.reduceToNat, Int.reduceGT, Int.reduceGE, Int.reduceNe, true_and, and_true, true_or, or_true, false_or, or_false, and_self, or_self, if_true, if_false, reduceIte, not_true_eq_false, not_false_eq_true, Int.reduceEq, Int.reduceNe, Int.reduceLT, Int.reduceLE, Int.reduceAdd, Int.reduceSub, Int.reduceMul, Int.reduceNeg, Nat.reduceAdd, Nat.reduceLeDiff, Nat.reduceEqDiff, ne_eq, List.length_cons, List.length_nil, Nat.reduceSub, hs_app, false_and, and_false, z29, z32, z50, z4, z5, z94, z49, c0, c1, j0, j1, w1, kw, wt, ws, wo, f0, f2, c2]
                exact this
              · simp only [k_MO_stands_11, e_MO_stands_12, k_MO_stands_12, e_MO_stands_13, k_MO_stands_13, e_MO_stands_14, k_MO_stands_14, e_MO_stands_15, k_MO_stands_15, e_MO_stands_16, k_MO_stands_16, e_MO_stands_17, k_MO_stands_17, e_MO_stands_18, k_MO_stands_18, en_MO_seats, e_MO_seats_0, k_MO_seats_0, en_MO_rowers, e_MO_rowers_0, k_MO_rowers_0, rr, sh, Nat.reduceLT, Nat.reduceMul, Int.reduceToNat, Int.reduceGT, Int.reduceGE, Int.reduceNe, true_and, and_true, true_or, or_true, false_or, or_false, and_self, or_self, if_true, if_false, reduceIte, not_true_eq_false, not_false_eq_true, Int.reduceEq, Int.reduceNe, Int.reduceLT, Int.reduceLE, Int.reduceAdd, Int.reduceSub, Int.reduceMul, Int.reduceNeg, Nat.reduceAdd, Nat.reduceLeDiff, Nat.reduceEqDiff, ne_eq, List.length_cons, List.length_nil, Nat.reduceSub, hs_app, false_and, and_false, z29, z32, z50, z4, z5, z94, z49, c0, c1, j0, j1, w1, kw, wt, ws, wo, f0, f2, c2]
                exact this
      · have c1 : (sTx P : Int) ≤ (k : Int) := il_y (Nat.not_lt.mp h1)
        have := g0 (-1) (by unfold siT; rw [if_neg (fun z => h1 z.1)]) (fun z => h1 z.1)
        rcases hy with rfl | ⟨v', rfl⟩
        · simp only [k_MO_stands_11, e_MO_stands_12, k_MO_stands_12, e_MO_stands_13, k_MO_stands_13, e_MO_stands_14, k_MO_stands_14, e_MO_stands_15, k_MO_stands_15, e_MO_stands_16, k_MO_stands_16, e_MO_stands_17, k_MO_stands_17, e_MO_stands_18, k_MO_stands_18, en_MO_seats, e_MO_seats_0, k_MO_seats_0, en_MO_rowers, e_MO_rowers_0, k_MO_rowers_0, rr, sh, Nat.reduceLT, Nat.reduceMul, Int.reduceToNat, Int.reduceGT, Int.reduceGE, Int.reduceNe, true_and, and_true, true_or, or_true, false_or, or_false, and_self, or_self, if_true, if_false, reduceIte, not_true_eq_false, not_false_eq_true, Int.reduceEq, Int.reduceNe, Int.reduceLT, Int.reduceLE, Int.reduceAdd, Int.reduceSub, Int.reduceMul, Int.reduceNeg, Nat.reduceAdd, Nat.reduceLeDiff, Nat.reduceEqDiff, ne_eq, List.length_cons, List.length_nil, Nat.reduceSub, hs_app, false_and, and_false, z29, z32, z50, z4, z5, z94, z49, c0, c1, j0, j1, w1, kw, wt, ws, wo]
          exact this
        · simp only [k_MO_stands_11, e_MO_stands_12, k_MO_stands_12, e_MO_stands_13, k_MO_stands_13, e_MO_stands_14, k_MO_stands_14, e_MO_stands_15, k_MO_stands_15, e_MO_stands_16, k_MO_stands_16, e_MO_stands_17, k_MO_stands_17, e_MO_stands_18, k_MO_stands_18, en_MO_seats, e_MO_seats_0, k_MO_seats_0, en_MO_rowers, e_MO_rowers_0, k_MO_rowers_0, rr, sh, Nat.reduceLT, Nat.reduceMul, Int.reduceToNat, Int.reduceGT, Int.reduceGE, Int.reduceNe, true_and, and_true, true_or, or_true, false_or, or_false, and_self, or_self, if_true, if_false, reduceIte, not_true_eq_false, not_false_eq_true, Int.reduceEq, Int.reduceNe, Int.reduceLT, Int.reduceLE, Int.reduceAdd, Int.reduceSub, Int.reduceMul, Int.reduceNeg, Nat.reduceAdd, Nat.reduceLeDiff, Nat.reduceEqDiff, ne_eq, List.length_cons, List.length_nil, Nat.reduceSub, hs_app, false_and, and_false, z29, z32, z50, z4, z5, z94, z49, c0, c1, j0, j1, w1, kw, wt, ws, wo]
          exact this
  exact lp 0 (Nat.zero_le _) _ _ (Or.inl rfl) S0
end PU
