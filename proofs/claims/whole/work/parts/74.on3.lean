/-! on: the reference -/
def imN (V : Hp) (m : Int) : Prop := m = ((11 + 2 * nS V : Nat) : Int) ∧ ckS (bt V) (10 + 2 * nS V) = bt V (10 + 2 * nS V) ∧ 256 * bt V 0 + bt V 1 ≤ 9999 ∧ okR V (nS V) ∧ cntW V (nS V) = min (nS V : Int) (nR V) ∧ okS V (nS V)
def seenM (V : Hp) (x k : Nat) : Prop := x < 8192 ∧ ∀ r : Nat, r < 13 → (x.testBit r = true ↔ ∃ j, j < k ∧ who V j = r)
section OM
variable {d : Nat} {V : Hp} {Q : AV → Hp → Prop}
theorem seenM_0 : seenM V 0 0 := by
  refine ⟨by decide, fun r _ => ⟨fun z => ?_, fun z => ?_⟩⟩
  · rw [Nat.zero_testBit] at z; cases z
  · obtain ⟨j, j1, -⟩ := z
    exact absurd j1 (Nat.not_lt_zero j)
theorem cntW_rng (V : Hp) (n : Nat) : 0 ≤ cntW V n ∧ cntW V n ≤ n := by
  induction n with
  | zero => exact ⟨Int.le_refl _, Int.le_refl _⟩
  | succ n ih =>
    show 0 ≤ cntW V n + (if 0 < who V n then 1 else 0) ∧ cntW V n + (if 0 < who V n then 1 else 0) ≤ _
    split <;> omega
set_option maxRecDepth 20000 in
theorem c_isImageM (hM : Inm V) {m : Int} (hb : ∀ k : Nat, k < 11 + 2 * nS V → 0 ≤ bt V k ∧ bt V k < 256) (hno : ¬ imN V m → Q (vi 0) V) (hQ : imN V m → Q (vi 1) V) : CC (d + 2) MO_isImage [va 71, vi m] V Q := by
  have hn := hM.boat.s
  have hr := hM.boat.r
  have p29 : V 71 29 = 91 := hM.ptr (71, 29, 91) (by decide +kernel)
  have p0 : V 71 0 = 72 := hM.ptr (71, 0, 72) (by decide +kernel)
  have p32 : V 71 32 = 94 := hM.ptr (71, 32, 94) (by decide +kernel)
  have w1 : w32 (11 + w32 (2 * (nS V : Int))) = ((11 + 2 * nS V : Nat) : Int) := by
    rw [w32_id (x := 2 * (nS V : Int)) (by omega) (by omega), w32_id (by omega) (by omega)]; omega
  have w2 : w32 (((11 + 2 * nS V : Nat) : Int) - 1) = ((10 + 2 * nS V : Nat) : Int) := by
    clear w1
    rw [w32_id (by omega) (by omega)]; omega
  by_cases hL : m = ((11 + 2 * nS V : Nat) : Int)
  · subst hL
    have j1 : 0 ≤ ((10 + 2 * nS V : Nat) : Int) ∧ ((10 + 2 * nS V : Nat) : Int) < 1600 := by clear w1 w2; omega
    have hc : ∀ {Q : AV → Hp → Prop}, CC (d + 1) MO_checked [va 72, vi ((10 + 2 * nS V : Nat) : Int)] V Q = Q (vi (ckS (bt V) (10 + 2 * nS V))) V := fun {Q} => q_checked (L := 1600) rfl rfl (by clear w1 w2; omega) (by decide) (fun k hk => ⟨rfl, hb k (by clear w1 w2; omega)⟩)
    have e0 : V 72 ((10 + 2 * nS V : Nat) : Int) = bt V (10 + 2 * nS V) := rfl
    have b0 := hb 0 (by omega)
    have b1 := hb 1 (by omega)
    have w3 : w32 (w32 (256 * V 72 0) + V 72 1) = 256 * bt V 0 + bt V 1 := by
      show w32 (w32 (256 * bt V 0) + bt V 1) = _
      rw [w32_id (x := 256 * bt V 0) (by clear w1 w2; omega) (by clear w1 w2; omega), w32_id (by clear w1 w2; omega) (by clear w1 w2; omega)]
    by_cases a1 : bt V (10 + 2 * nS V) = ckS (bt V) (10 + 2 * nS V)
    · by_cases a2 : 256 * bt V 0 + bt V 1 ≤ 9999
      · simp only [en_MO_isImage, e_MO_isImage_0, k_MO_isImage_0, e_MO_isImage_2, k_MO_isImage_2, en_MO_seats, e_MO_seats_0, k_MO_seats_0, rr, sh, Nat.reduceLT, Nat.reduceMul, Int.reduceToNat, Int.reduceGT, Int.reduceGE, Int.reduceNe, true_and, and_true, true_or, or_true, false_or, or_false, and_self, or_self, if_true, if_false, reduceIte, not_true_eq_false, not_false_eq_true, Int.reduceEq, Int.reduceNe, Int.reduceLT, Int.reduceLE, Int.reduceAdd, Int.reduceSub, Int.reduceMul, Int.reduceNeg, Nat.reduceAdd, Nat.reduceLeDiff, Nat.reduceEqDiff, ne_eq, List.length_cons, List.length_nil, Nat.reduceSub, p29, hn.1, w1, w2, p0, j1, hc, e0, a1, w3, a2]
        refine up_nat (P := fun k => ∀ x (y z : AV), seenM V x k → okR V k → okS V k → R (d + 2) MO_isImage (blk MO_isImage 3) [va 71, vi ((11 + 2 * nS V : Nat) : Int), vi (x : Nat), vi (cntW V k), vi k, y, z] [] V Q) ?_ ?_ 0 (Nat.zero_le (nS V)) 0 vu vu seenM_0 (fun k hk => absurd hk (Nat.not_lt_zero k)) (fun k hk => absurd hk (Nat.not_lt_zero k))
        · intro x y z hx ho hs'
          rw [e_MO_isImage_3]
          by_cases c0 : (nS V : Int) < nR V
          · have c0' : ¬ (nR V : Int) ≤ nS V := Int.not_le.mpr c0
            have em : min (nS V : Int) (nR V) = nS V := by clear w1 w2 w3 e0 a1 a2; omega
            by_cases h : cntW V (nS V) = nS V
            · simp only [k_MO_isImage_3, e_MO_isImage_8, k_MO_isImage_8, e_MO_isImage_9, k_MO_isImage_9, e_MO_isImage_10, k_MO_isImage_10, e_MO_isImage_11, k_MO_isImage_11, e_MO_isImage_12, k_MO_isImage_12, en_MO_seats, e_MO_seats_0, k_MO_seats_0, en_MO_rowers, e_MO_rowers_0, k_MO_rowers_0, rr, sh, Nat.reduceLT, Nat.reduceMul, Int.reduceToNat, Int.reduceGT, Int.reduceGE, Int.reduceNe, true_and, and_true, true_or, or_true, false_or, or_false, and_self, or_self, if_true, if_false, reduceIte, not_true_eq_false, not_false_eq_true, Int.reduceEq, Int.reduceNe, Int.reduceLT, Int.reduceLE, Int.reduceAdd, Int.reduceSub, Int.reduceMul, Int.reduceNeg, Nat.reduceAdd, Nat.reduceLeDiff, Nat.reduceEqDiff, ne_eq, List.length_cons, List.length_nil, Nat.reduceSub, p29, hn.1, hr.1, Int.le_refl, c0', h]
              exact hQ ⟨rfl, a1.symm, a2, ho, by rw [em]; exact h, hs'⟩
            · simp only [k_MO_isImage_3, e_MO_isImage_8, k_MO_isImage_8, e_MO_isImage_9, k_MO_isImage_9, e_MO_isImage_10, k_MO_isImage_10, e_MO_isImage_11, k_MO_isImage_11, e_MO_isImage_12, k_MO_isImage_12, en_MO_seats, e_MO_seats_0, k_MO_seats_0, en_MO_rowers, e_MO_rowers_0, k_MO_rowers_0, rr, sh, Nat.reduceLT, Nat.reduceMul, Int.reduceToNat, Int.reduceGT, Int.reduceGE, Int.reduceNe, true_and, and_true, true_or, or_true, false_or, or_false, and_self, or_self, if_true, if_false, reduceIte, not_true_eq_false, not_false_eq_true, Int.reduceEq, Int.reduceNe, Int.reduceLT, Int.reduceLE, Int.reduceAdd, Int.reduceSub, Int.reduceMul, Int.reduceNeg, Nat.reduceAdd, Nat.reduceLeDiff, Nat.reduceEqDiff, ne_eq, List.length_cons, List.length_nil, Nat.reduceSub, p29, hn.1, hr.1, Int.le_refl, c0', h]
              exact hno fun z => h (by rw [← em]; exact z.2.2.2.2.1)
          · have c0' : (nR V : Int) ≤ nS V := Int.not_lt.mp c0
            have em : min (nS V : Int) (nR V) = nR V := by clear w1 w2 w3 e0 a1 a2; omega
            by_cases h : cntW V (nS V) = nR V
            · simp only [k_MO_isImage_3, e_MO_isImage_8, k_MO_isImage_8, e_MO_isImage_9, k_MO_isImage_9, e_MO_isImage_10, k_MO_isImage_10, e_MO_isImage_11, k_MO_isImage_11, e_MO_isImage_12, k_MO_isImage_12, en_MO_seats, e_MO_seats_0, k_MO_seats_0, en_MO_rowers, e_MO_rowers_0, k_MO_rowers_0, rr, sh, Nat.reduceLT, Nat.reduceMul, Int.reduceToNat, Int.reduceGT, Int.reduceGE, Int.reduceNe, true_and, and_true, true_or, or_true, false_or, or_false, and_self, or_self, if_true, if_false, reduceIte, not_true_eq_false, not_false_eq_true, Int.reduceEq, Int.reduceNe, Int.reduceLT, Int.reduceLE, Int.reduceAdd, Int.reduceSub, Int.reduceMul, Int.reduceNeg, Nat.reduceAdd, Nat.reduceLeDiff, Nat.reduceEqDiff, ne_eq, List.length_cons, List.length_nil, Nat.reduceSub, p29, hn.1, hr.1, Int.le_refl, c0', h]
              exact hQ ⟨rfl, a1.symm, a2, ho, by rw [em]; exact h, hs'⟩
            · simp only [k_MO_isImage_3, e_MO_isImage_8, k_MO_isImage_8, e_MO_isImage_9, k_MO_isImage_9, e_MO_isImage_10, k_MO_isImage_10, e_MO_isImage_11, k_MO_isImage_11, e_MO_isImage_12, k_MO_isImage_12, en_MO_seats, e_MO_seats_0, k_MO_seats_0, en_MO_rowers, e_MO_rowers_0, k_MO_rowers_0, rr, sh, Nat.reduceLT, Nat.reduceMul, Int.reduceToNat, Int.reduceGT, Int.reduceGE, Int.reduceNe, true_and, and_true, true_or, or_true, false_or, or_false, and_self, or_self, if_true, if_false, reduceIte, not_true_eq_false, not_false_eq_true, Int.reduceEq, Int.reduceNe, Int.reduceLT, Int.reduceLE, Int.reduceAdd, Int.reduceSub, Int.reduceMul, Int.reduceNeg, Nat.reduceAdd, Nat.reduceLeDiff, Nat.reduceEqDiff, ne_eq, List.length_cons, List.length_nil, Nat.reduceSub, p29, hn.1, hr.1, Int.le_refl, c0', h]
              exact hno fun z => h (by rw [← em]; exact z.2.2.2.2.1)
        · clear w1 w2 w3 e0 hc
          intro k hk ih x y z hx ho hs'
          have c1 : ¬ (nS V : Int) ≤ k := by clear ih hx ho hs' hno hQ; omega
          have kw := w32_s (n := k) (by clear ih hx ho hs' hno hQ; omega)
          obtain ⟨i1, i2⟩ := ix10 hk hn.2
          have w8 : w32 (12 + (k : Int)) = 12 + k := w32_id (by clear ih hx ho hs' hno hQ kw i1 i2; omega) (by clear ih hx ho hs' hno hQ kw i1 i2; omega)
          have k1 : 0 ≤ ((10 + 2 * k : Nat) : Int) ∧ ((10 + 2 * k : Nat) : Int) < 1600 := by clear ih hx ho hs' hno hQ kw i1 i2 w8; omega
          have k2 : 0 ≤ ((11 + 2 * k : Nat) : Int) ∧ ((11 + 2 * k : Nat) : Int) < 1600 := by clear ih hx ho hs' hno hQ kw i1 i2 w8; omega
          have k3 : 0 ≤ 12 + (k : Int) ∧ 12 + (k : Int) < 24 := by clear ih hx ho hs' hno hQ kw i1 i2 w8; omega
          have f1 : V 72 ((10 + 2 * k : Nat) : Int) = who V k := rfl
          have f2 : V 72 ((11 + 2 * k : Nat) : Int) = rgt V k := rfl
          have hbr : 0 ≤ who V k ∧ who V k < 256 := hb _ (by clear ih hx ho hs' hno hQ kw i1 i2 w8; omega)
          have hbq : 0 ≤ rgt V k ∧ rgt V k < 256 := hb _ (by clear ih hx ho hs' hno hQ kw i1 i2 w8; omega)
          have hcn := cntW_rng V k
          have hcnt : cntW V (k + 1) = cntW V k + if 0 < who V k then 1 else 0 := rfl
          have hfx := hM.boat.fix k hk
          have w9 : w32 (V 94 (12 + k) - 1) = V 94 (12 + k) - 1 := w32_id (by clear ih hx ho hs' hno hQ kw i1 i2 w8 hcnt; omega) (by clear ih hx ho hs' hno hQ kw i1 i2 w8 hcnt; omega)
          obtain ⟨r, hw⟩ := Int.eq_ofNat_of_zero_le hbr.1
          have wc : w32 (cntW V k + 1) = cntW V k + 1 := w32_id (by clear ih hx ho hs' hno hQ kw i1 i2 w8 hcnt w9; omega) (by clear ih hx ho hs' hno hQ kw i1 i2 w8 hcnt w9; omega)
          rw [hw] at f1
          rw [e_MO_isImage_3]
          have cn : (if (0 : Int) < r then cntW V k + 1 else cntW V k) = cntW V (k + 1) := by
            rw [hcnt, hw]
            split
            · rfl
            · exact (Int.add_zero _).symm
          by_cases c2 : (r : Int) ≤ nR V
          · by_cases c3 : rgt V k ≤ 1
            · have c2' : ¬ (nR V : Int) < r := Int.not_lt.mpr c2
              have c3' : ¬ 1 < rgt V k := Int.not_lt.mpr c3
              have r13 : r < 13 := by clear ih hx ho hs' hno hQ kw i1 i2 w8 hcnt w9 wc cn f1; omega
              have bb := b_bit (a := x) (k := r) (Nat.lt_trans hx.1 (by decide)) (Nat.lt_trans r13 (by decide))
              have hp : (1 : Nat) * 2 ^ r < 8192 := by
                have := Nat.pow_le_pow_right (show 0 < 2 by decide) (show r ≤ 12 by clear ih hx ho hs' hno hQ kw i1 i2 w8 hcnt w9 wc cn f1 bb; omega)
                clear ih hx ho hs' hno hQ kw i1 i2 w8 hcnt w9 wc cn f1 bb; omega
              have hx1 := hx.1
              have w3 : b_shl 1 r = ((1 * 2 ^ r : Nat) : Int) := b_shl_nat (a := 1) (Nat.lt_trans r13 (by decide)) (Nat.lt_trans hp (by decide))
              have w4 : b_or (x : Int) ((1 * 2 ^ r : Nat) : Int) = ((x ||| 1 * 2 ^ r : Nat) : Int) := b_or_nat (Nat.lt_trans hx1 (by decide)) (Nat.lt_trans hp (by decide))
              by_cases c4 : 0 < r ∧ x.testBit r = true
              · have c5 : (0 : Int) < r := Int.ofNat_lt.mpr c4.1
                have c5' : ¬ (r : Int) ≤ 0 := Int.not_le.mpr c5
                rw [c4.2] at bb
                simp only [if_true] at bb
                simp only [k_MO_isImage_3, e_MO_isImage_4, k_MO_isImage_4, e_MO_isImage_5, k_MO_isImage_5, e_MO_isImage_6, k_MO_isImage_6, e_MO_isImage_7, k_MO_isImage_7, en_MO_seats, e_MO_seats_0, k_MO_seats_0, en_MO_rowers, e_MO_rowers_0, k_MO_rowers_0, rr, sh, Nat.reduceLT, Nat.reduceMul, Int.reduceToNat, Int.reduceGT, Int.reduceGE, Int.reduceNe, true_and, and_true, true_or, or_true, false_or, or_false, and_self, or_self, if_true, if_false, reduceIte, not_true_eq_false, not_false_eq_true, Int.reduceEq, Int.reduceNe, Int.reduceLT, Int.reduceLE, Int.reduceAdd, Int.reduceSub, Int.reduceMul, Int.reduceNeg, Nat.reduceAdd, Nat.reduceLeDiff, Nat.reduceEqDiff, ne_eq, List.length_cons, List.length_nil, Nat.reduceSub, p29, hn.1, hr.1, c1, p0, i1, i2, k1, k2, f1, f2, c5', wc, c2', c3', bb]
                refine hno fun z => ?_
                obtain ⟨j, j1, j2⟩ := (hx.2 r r13).mp c4.2
                exact (z.2.2.2.1 k hk).2 (by rw [hw]; exact c5) j j1 (by rw [j2, hw])
              · have hok : okR V (k + 1) := fun q hq => by
                  by_cases e : q = k
                  · subst e
                    refine ⟨by rw [hw]; exact c2, fun z1 j hj z2 => c4 ⟨Int.ofNat_lt.mp (by rw [← hw]; exact z1), (hx.2 r r13).mpr ⟨j, hj, by rw [z2, hw]⟩⟩⟩
                  · exact ho q (Nat.lt_of_le_of_ne (Nat.le_of_lt_succ hq) e)
                have hsn : seenM V (x ||| 1 * 2 ^ r) (k + 1) := by
                  refine ⟨Nat.or_lt_two_pow (n := 13) hx1 hp, fun q hq => ?_⟩
                  rw [Nat.testBit_or, Nat.one_mul, Nat.testBit_two_pow, Bool.or_eq_true, decide_eq_true_eq, hx.2 q hq]
                  constructor
                  · rintro (⟨j, j1, j2⟩ | e)
                    · exact ⟨j, Nat.lt_succ_of_lt j1, j2⟩
                    · exact ⟨k, Nat.lt_succ_self k, by rw [hw, e]⟩
                  · rintro ⟨j, j1, j2⟩
                    by_cases e : j = k
                    · right
                      rw [e, hw] at j2
                      exact Int.ofNat_inj.mp j2
                    · exact Or.inl ⟨j, Nat.lt_of_le_of_ne (Nat.le_of_lt_succ j1) e, j2⟩
                by_cases c6 : V 94 (12 + k) = 0
                · have hos : okS V (k + 1) := fun q hq => by
                    by_cases e : q = k
                    · subst e; exact ⟨c3, fun z => absurd c6 z⟩
                    · exact hs' q (Nat.lt_of_le_of_ne (Nat.le_of_lt_succ hq) e)
                  have fin := ih (x ||| 1 * 2 ^ r) (vi r) (vi (rgt V k)) hsn hok hos
                  rw [← cn] at fin
                  by_cases c5 : (0 : Int) < r
                  · have c5' : ¬ (r : Int) ≤ 0 := Int.not_le.mpr c5
                    have hbf : x.testBit r = false := by
                      cases e : x.testBit r with
                      | false => rfl
                      | true => exact absurd ⟨Int.ofNat_lt.mp c5, e⟩ c4
                    rw [hbf] at bb
                    simp only [Bool.false_eq_true, if_false] at bb
                    rw [if_pos c5] at fin
                    simp only [k_MO_isImage_3, e_MO_isImage_4, k_MO_isImage_4, e_MO_isImage_5, k_MO_isImage_5, e_MO_isImage_6, k_MO_isImage_6, e_MO_isImage_7, k_MO_isImage_7, en_MO_isFixed, e_MO_isFixed_0, k_MO_isFixed_0, e_MO_isFixed_1, k_MO_isFixed_1, e_MO_isFixed_2, k_MO_isFixed_2, en_MO_seats, e_MO_seats_0, k_MO_seats_0, en_MO_rowers, e_MO_rowers_0, k_MO_rowers_0, rr, sh, Nat.reduceLT, Nat.reduceMul, Int.reduceToNat, Int.reduceGT, Int.reduceGE, Int.reduceNe, true_and, and_true, true_or, or_true, false_or, or_false, and_self, or_self, if_true, if_false, reduceIte, not_true_eq_false, not_false_eq_true, Int.reduceEq, Int.reduceNe, Int.reduceLT, Int.reduceLE, Int.reduceAdd, Int.reduceSub, Int.reduceMul, Int.reduceNeg, Nat.reduceAdd, Nat.reduceLeDiff, Nat.reduceEqDiff, ne_eq, List.length_cons, List.length_nil, Nat.reduceSub, p29, hn.1, hr.1, c1, p0, p32, w8, k3, i1, i2, k1, k2, f1, f2, c5', wc, c2', c3', bb, c6, w3, w4, kw]
                    exact fin
                  · have c5' : (r : Int) ≤ 0 := Int.not_lt.mp c5
                    rw [if_neg c5] at fin
                    simp only [k_MO_isImage_3, e_MO_isImage_4, k_MO_isImage_4, e_MO_isImage_5, k_MO_isImage_5, e_MO_isImage_6, k_MO_isImage_6, e_MO_isImage_7, k_MO_isImage_7, en_MO_isFixed, e_MO_isFixed_0, k_MO_isFixed_0, e_MO_isFixed_1, k_MO_isFixed_1, e_MO_isFixed_2, k_MO_isFixed_2, en_MO_seats, e_MO_seats_0, k_MO_seats_0, en_MO_rowers, e_MO_rowers_0, k_MO_rowers_0, rr, sh, Nat.reduceLT, Nat.reduceMul, Int.reduceToNat, Int.reduceGT, Int.reduceGE, Int.reduceNe, true_and, and_true, true_or, or_true, false_or, or_false, and_self, or_self, if_true, if_false, reduceIte, not_true_eq_false, not_false_eq_true, Int.reduceEq, Int.reduceNe, Int.reduceLT, Int.reduceLE, Int.reduceAdd, Int.reduceSub, Int.reduceMul, Int.reduceNeg, Nat.reduceAdd, Nat.reduceLeDiff, Nat.reduceEqDiff, ne_eq, List.length_cons, List.length_nil, Nat.reduceSub, p29, hn.1, hr.1, c1, p0, p32, w8, k3, i1, i2, k1, k2, f1, f2, c5', wc, c2', c3', bb, c6, w3, w4, kw]
                    exact fin
                · by_cases c7 : rgt V k = V 94 (12 + k) - 1
                  · have hos : okS V (k + 1) := fun q hq => by
                      by_cases e : q = k
                      · subst e; exact ⟨c3, fun _ => c7⟩
                      · exact hs' q (Nat.lt_of_le_of_ne (Nat.le_of_lt_succ hq) e)
                    have fin := ih (x ||| 1 * 2 ^ r) (vi r) (vi (rgt V k)) hsn hok hos
                    rw [← cn] at fin
                    by_cases c5 : (0 : Int) < r
                    · have c5' : ¬ (r : Int) ≤ 0 := Int.not_le.mpr c5
                      have hbf : x.testBit r = false := by
                        cases e : x.testBit r with
                        | false => rfl
                        | true => exact absurd ⟨Int.ofNat_lt.mp c5, e⟩ c4
                      rw [hbf] at bb
                      simp only [Bool.false_eq_true, if_false] at bb
                      rw [if_pos c5] at fin
                      rw [c7] at c3' f2 fin
                      simp only [k_MO_isImage_3, e_MO_isImage_4, k_MO_isImage_4, e_MO_isImage_5, k_MO_isImage_5, e_MO_isImage_6, k_MO_isImage_6, e_MO_isImage_7, k_MO_isImage_7, en_MO_isFixed, e_MO_isFixed_0, k_MO_isFixed_0, e_MO_isFixed_1, k_MO_isFixed_1, e_MO_isFixed_2, k_MO_isFixed_2, en_MO_seats, e_MO_seats_0, k_MO_seats_0, en_MO_rowers, e_MO_rowers_0, k_MO_rowers_0, rr, sh, Nat.reduceLT, Nat.reduceMul, Int.reduceToNat, Int.reduceGT, Int.reduceGE, Int.reduceNe, true_and, and_true, true_or, or_true, false_or, or_false, and_self, or_self, if_true, if_false, reduceIte, not_true_eq_false, not_false_eq_true, Int.reduceEq, Int.reduceNe, Int.reduceLT, Int.reduceLE, Int.reduceAdd, Int.reduceSub, Int.reduceMul, Int.reduceNeg, Nat.reduceAdd, Nat.reduceLeDiff, Nat.reduceEqDiff, ne_eq, List.length_cons, List.length_nil, Nat.reduceSub, p29, hn.1, hr.1, c1, p0, p32, w8, k3, i1, i2, k1, k2, f1, f2, c5', wc, c2', c3', bb, c6, w9, w3, w4, kw]
                      exact fin
                    · have c5' : (r : Int) ≤ 0 := Int.not_lt.mp c5
                      rw [if_neg c5] at fin
                      rw [c7] at c3' f2 fin
                      simp only [k_MO_isImage_3, e_MO_isImage_4, k_MO_isImage_4, e_MO_isImage_5, k_MO_isImage_5, e_MO_isImage_6, k_MO_isImage_6, e_MO_isImage_7, k_MO_isImage_7, en_MO_isFixed, e_MO_isFixed_0, k_MO_isFixed_0, e_MO_isFixed_1, k_MO_isFixed_1, e_MO_isFixed_2, k_MO_isFixed_2, en_MO_seats, e_MO_seats_0, k_MO_seats_0, en_MO_rowers, e_MO_rowers_0, k_MO_rowers_0, rr, sh, Nat.reduceLT, Nat.reduceMul, Int.reduceToNat, Int.reduceGT, Int.reduceGE, Int.reduceNe, true_and, and_true, true_or, or_true, false_or, or_false, and_self, or_self, if_true, if_false, reduceIte, not_true_eq_false, not_false_eq_true, Int.reduceEq, Int.reduceNe, Int.reduceLT, Int.reduceLE, Int.reduceAdd, Int.reduceSub, Int.reduceMul, Int.reduceNeg, Nat.reduceAdd, Nat.reduceLeDiff, Nat.reduceEqDiff, ne_eq, List.length_cons, List.length_nil, Nat.reduceSub, p29, hn.1, hr.1, c1, p0, p32, w8, k3, i1, i2, k1, k2, f1, f2, c5', wc, c2', c3', bb, c6, w9, w3, w4, kw]
                      exact fin
                  · have fno := hno fun z => c7 ((z.2.2.2.2.2 k hk).2 c6)
                    by_cases c5 : (0 : Int) < r
                    · have c5' : ¬ (r : Int) ≤ 0 := Int.not_le.mpr c5
                      have hbf : x.testBit r = false := by
                        cases e : x.testBit r with
                        | false => rfl
                        | true => exact absurd ⟨Int.ofNat_lt.mp c5, e⟩ c4
                      rw [hbf] at bb
                      simp only [Bool.false_eq_true, if_false] at bb
                      simp only [k_MO_isImage_3, e_MO_isImage_4, k_MO_isImage_4, e_MO_isImage_5, k_MO_isImage_5, e_MO_isImage_6, k_MO_isImage_6, e_MO_isImage_7, k_MO_isImage_7, en_MO_isFixed, e_MO_isFixed_0, k_MO_isFixed_0, e_MO_isFixed_1, k_MO_isFixed_1, e_MO_isFixed_2, k_MO_isFixed_2, en_MO_seats, e_MO_seats_0, k_MO_seats_0, en_MO_rowers, e_MO_rowers_0, k_MO_rowers_0, rr, sh, Nat.reduceLT, Nat.reduceMul, Int.reduceToNat, Int.reduceGT, Int.reduceGE, Int.reduceNe, true_and, and_true, true_or, or_true, false_or, or_false, and_self, or_self, if_true, if_false, reduceIte, not_true_eq_false, not_false_eq_true, Int.reduceEq, Int.reduceNe, Int.reduceLT, Int.reduceLE, Int.reduceAdd, Int.reduceSub, Int.reduceMul, Int.reduceNeg, Nat.reduceAdd, Nat.reduceLeDiff, Nat.reduceEqDiff, ne_eq, List.length_cons, List.length_nil, Nat.reduceSub, p29, hn.1, hr.1, c1, p0, p32, w8, k3, i1, i2, k1, k2, f1, f2, c5', wc, c2', c3', bb, c6, w9, c7]
                      exact fno
                    · have c5' : (r : Int) ≤ 0 := Int.not_lt.mp c5
                      simp only [k_MO_isImage_3, e_MO_isImage_4, k_MO_isImage_4, e_MO_isImage_5, k_MO_isImage_5, e_MO_isImage_6, k_MO_isImage_6, e_MO_isImage_7, k_MO_isImage_7, en_MO_isFixed, e_MO_isFixed_0, k_MO_isFixed_0, e_MO_isFixed_1, k_MO_isFixed_1, e_MO_isFixed_2, k_MO_isFixed_2, en_MO_seats, e_MO_seats_0, k_MO_seats_0, en_MO_rowers, e_MO_rowers_0, k_MO_rowers_0, rr, sh, Nat.reduceLT, Nat.reduceMul, Int.reduceToNat, Int.reduceGT, Int.reduceGE, Int.reduceNe, true_and, and_true, true_or, or_true, false_or, or_false, and_self, or_self, if_true, if_false, reduceIte, not_true_eq_false, not_false_eq_true, Int.reduceEq, Int.reduceNe, Int.reduceLT, Int.reduceLE, Int.reduceAdd, Int.reduceSub, Int.reduceMul, Int.reduceNeg, Nat.reduceAdd, Nat.reduceLeDiff, Nat.reduceEqDiff, ne_eq, List.length_cons, List.length_nil, Nat.reduceSub, p29, hn.1, hr.1, c1, p0, p32, w8, k3, i1, i2, k1, k2, f1, f2, c5', wc, c2', c3', bb, c6, w9, c7]
                      exact fno
            · have c2' : ¬ (nR V : Int) < r := Int.not_lt.mpr c2
              have c3' : 1 < rgt V k := Int.not_le.mp c3
              have fno := hno fun z => c3 (z.2.2.2.2.2 k hk).1
              by_cases c5 : (r : Int) ≤ 0
              · simp only [k_MO_isImage_3, e_MO_isImage_4, k_MO_isImage_4, e_MO_isImage_5, k_MO_isImage_5, e_MO_isImage_6, k_MO_isImage_6, e_MO_isImage_7, k_MO_isImage_7, en_MO_seats, e_MO_seats_0, k_MO_seats_0, en_MO_rowers, e_MO_rowers_0, k_MO_rowers_0, rr, sh, Nat.reduceLT, Nat.reduceMul, Int.reduceToNat, Int.reduceGT, Int.reduceGE, Int.reduceNe, true_and, and_true, true_or, or_true, false_or, or_false, and_self, or_self, if_true, if_false, reduceIte, not_true_eq_false, not_false_eq_true, Int.reduceEq, Int.reduceNe, Int.reduceLT, Int.reduceLE, Int.reduceAdd, Int.reduceSub, Int.reduceMul, Int.reduceNeg, Nat.reduceAdd, Nat.reduceLeDiff, Nat.reduceEqDiff, ne_eq, List.length_cons, List.length_nil, Nat.reduceSub, p29, hn.1, hr.1, c1, p0, i1, i2, k1, k2, f1, f2, c5, wc, c2', c3']
                exact fno
              · simp only [k_MO_isImage_3, e_MO_isImage_4, k_MO_isImage_4, e_MO_isImage_5, k_MO_isImage_5, e_MO_isImage_6, k_MO_isImage_6, e_MO_isImage_7, k_MO_isImage_7, en_MO_seats, e_MO_seats_0, k_MO_seats_0, en_MO_rowers, e_MO_rowers_0, k_MO_rowers_0, rr, sh, Nat.reduceLT, Nat.reduceMul, Int.reduceToNat, Int.reduceGT, Int.reduceGE, Int.reduceNe, true_and, and_true, true_or, or_true, false_or, or_false, and_self, or_self, if_true, if_false, reduceIte, not_true_eq_false, not_false_eq_true, Int.reduceEq, Int.reduceNe, Int.reduceLT, Int.reduceLE, Int.reduceAdd, Int.reduceSub, Int.reduceMul, Int.reduceNeg, Nat.reduceAdd, Nat.reduceLeDiff, Nat.reduceEqDiff, ne_eq, List.length_cons, List.length_nil, Nat.reduceSub, p29, hn.1, hr.1, c1, p0, i1, i2, k1, k2, f1, f2, c5, wc, c2', c3']
                exact fno
          · have c2' : (nR V : Int) < r := Int.not_le.mp c2
            have fno := hno fun z => c2 (by have := (z.2.2.2.1 k hk).1; rw [hw] at this; exact this)
            by_cases c5 : (r : Int) ≤ 0
            · simp only [k_MO_isImage_3, e_MO_isImage_4, k_MO_isImage_4, e_MO_isImage_5, k_MO_isImage_5, e_MO_isImage_6, k_MO_isImage_6, e_MO_isImage_7, k_MO_isImage_7, en_MO_seats, e_MO_seats_0, k_MO_seats_0, en_MO_rowers, e_MO_rowers_0, k_MO_rowers_0, rr, sh, Nat.reduceLT, Nat.reduceMul, Int.reduceToNat, Int.reduceGT, Int.reduceGE, Int.reduceNe, true_and, and_true, true_or, or_true, false_or, or_false, and_self, or_self, if_true, if_false, reduceIte, not_true_eq_false, not_false_eq_true, Int.reduceEq, Int.reduceNe, Int.reduceLT, Int.reduceLE, Int.reduceAdd, Int.reduceSub, Int.reduceMul, Int.reduceNeg, Nat.reduceAdd, Nat.reduceLeDiff, Nat.reduceEqDiff, ne_eq, List.length_cons, List.length_nil, Nat.reduceSub, p29, hn.1, hr.1, c1, p0, i1, i2, k1, k2, f1, f2, c5, wc, c2']
              exact fno
            · simp only [k_MO_isImage_3, e_MO_isImage_4, k_MO_isImage_4, e_MO_isImage_5, k_MO_isImage_5, e_MO_isImage_6, k_MO_isImage_6, e_MO_isImage_7, k_MO_isImage_7, en_MO_seats, e_MO_seats_0, k_MO_seats_0, en_MO_rowers, e_MO_rowers_0, k_MO_rowers_0, rr, sh, Nat.reduceLT, Nat.reduceMul, Int.reduceToNat, Int.reduceGT, Int.reduceGE, Int.reduceNe, true_and, and_true, true_or, or_true, false_or, or_false, and_self, or_self, if_true, if_false, reduceIte, not_true_eq_false, not_false_eq_true, Int.reduceEq, Int.reduceNe, Int.reduceLT, Int.reduceLE, Int.reduceAdd, Int.reduceSub, Int.reduceMul, Int.reduceNeg, Nat.reduceAdd, Nat.reduceLeDiff, Nat.reduceEqDiff, ne_eq, List.length_cons, List.length_nil, Nat.reduceSub, p29, hn.1, hr.1, c1, p0, i1, i2, k1, k2, f1, f2, c5, wc, c2']
              exact fno
      · simp only [en_MO_isImage, e_MO_isImage_0, k_MO_isImage_0, e_MO_isImage_1, k_MO_isImage_1, en_MO_seats, e_MO_seats_0, k_MO_seats_0, rr, sh, Nat.reduceLT, Nat.reduceMul, Int.reduceToNat, Int.reduceGT, Int.reduceGE, Int.reduceNe, true_and, and_true, true_or, or_true, false_or, or_false, and_self, or_self, if_true, if_false, reduceIte, not_true_eq_false, not_false_eq_true, Int.reduceEq, Int.reduceNe, Int.reduceLT, Int.reduceLE, Int.reduceAdd, Int.reduceSub, Int.reduceMul, Int.reduceNeg, Nat.reduceAdd, Nat.reduceLeDiff, Nat.reduceEqDiff, ne_eq, List.length_cons, List.length_nil, Nat.reduceSub, p29, hn.1, w1, w2, p0, j1, hc, e0, a1, w3, a2]
        exact hno fun q => a2 q.2.2.1
    · simp only [en_MO_isImage, e_MO_isImage_0, k_MO_isImage_0, e_MO_isImage_1, k_MO_isImage_1, en_MO_seats, e_MO_seats_0, k_MO_seats_0, rr, sh, Nat.reduceLT, Nat.reduceMul, Int.reduceToNat, Int.reduceGT, Int.reduceGE, Int.reduceNe, true_and, and_true, true_or, or_true, false_or, or_false, and_self, or_self, if_true, if_false, reduceIte, not_true_eq_false, not_false_eq_true, Int.reduceEq, Int.reduceNe, Int.reduceLT, Int.reduceLE, Int.reduceAdd, Int.reduceSub, Int.reduceMul, Int.reduceNeg, Nat.reduceAdd, Nat.reduceLeDiff, Nat.reduceEqDiff, ne_eq, List.length_cons, List.length_nil, Nat.reduceSub, p29, hn.1, w1, w2, p0, j1, hc, e0, a1]
      exact hno fun q => a1 q.2.1.symm
  · simp only [en_MO_isImage, e_MO_isImage_0, k_MO_isImage_0, e_MO_isImage_1, k_MO_isImage_1, en_MO_seats, e_MO_seats_0, k_MO_seats_0, rr, sh, Nat.reduceLT, Nat.reduceMul, Int.reduceToNat, Int.reduceGT, Int.reduceGE, Int.reduceNe, true_and, and_true, true_or, or_true, false_or, or_false, and_self, or_self, if_true, if_false, reduceIte, not_true_eq_false, not_false_eq_true, Int.reduceEq, Int.reduceNe, Int.reduceLT, Int.reduceLE, Int.reduceAdd, Int.reduceSub, Int.reduceMul, Int.reduceNeg, Nat.reduceAdd, Nat.reduceLeDiff, Nat.reduceEqDiff, ne_eq, List.length_cons, List.length_nil, Nat.reduceSub, p29, hn.1, w1, hL]
    exact hno fun q => hL q.1
end OM
