/-! on: what an image must be -/
def who (V : Hp) (k : Nat) : Int := V 72 ((10 + 2 * k : Nat) : Int)
def rgt (V : Hp) (k : Nat) : Int := V 72 ((11 + 2 * k : Nat) : Int)
def bt (V : Hp) (k : Nat) : Int := V 72 k
def okR (V : Hp) (n : Nat) : Prop := ∀ k, k < n → who V k ≤ nR V ∧ (0 < who V k → ∀ j, j < k → who V j ≠ who V k)
def okS (V : Hp) (n : Nat) : Prop := ∀ k, k < n → rgt V k ≤ 1 ∧ (V 94 (12 + k) ≠ 0 → rgt V k = V 94 (12 + k) - 1)
def cntW (V : Hp) (n : Nat) : Int := sumI (fun k => if 0 < who V k then 1 else 0) n
def imOk (V : Hp) : Prop := V 71 1 = ((11 + 2 * nS V : Nat) : Int) ∧ ckS (bt V) (10 + 2 * nS V) = bt V (10 + 2 * nS V) ∧ 256 * bt V 0 + bt V 1 ≤ 9999 ∧ okR V (nS V) ∧ cntW V (nS V) = min (nS V : Int) (nR V) ∧ okS V (nS V)
theorem sumI_upd {f g : Nat → Int} {n r : Nat} (hr : r < n) (h : ∀ k, k ≠ r → f k = g k) (h1 : f r = g r + 1) : sumI f n = sumI g n + 1 := by
  induction n with
  | zero => omega
  | succ n ih =>
    show sumI f n + f n = sumI g n + g n + 1
    by_cases e : r = n
    · subst e
      rw [sumI_cg (fun k hk => h k (by omega)), h1]; omega
    · rw [ih (by omega), h n (fun z => e z.symm)]; omega
theorem pop_or {x r : Nat} (hr : r < 12) (h : x.testBit r = false) : pop (x ||| 1 * 2 ^ r) = pop x + 1 := by
  refine sumI_upd hr (fun k hk => ?_) ?_
  · rw [Nat.testBit_or, Nat.one_mul, Nat.testBit_two_pow, decide_eq_false (fun z => hk z.symm), Bool.or_false]
  · rw [Nat.testBit_or, Nat.one_mul, Nat.testBit_two_pow, decide_eq_true rfl, h]; rfl
section ON
variable {d : Nat} {V H : Hp} {Q : AV → Hp → Prop}
theorem bt_rng (hT : TapeR V) {k : Nat} (hk : (k : Int) < V 2 1) : 0 ≤ bt V k ∧ bt V k < 256 := by
  have := (hT.2.2 k hk).2
  unfold bt
  omega
theorem q_byteAt (hT : TapeR V) (h0 : H 2 0 = 3) (h1 : H 2 1 = V 2 1) (h3 : H 3 = V 3) {k : Nat} (hk : (k : Int) < V 2 1) : CC d TP_byteAt [va 2, vi k] H Q = Q (vi (bt V k)) H := by
  refine CC_dt fun Q hQ => ?_
  have e := (hT.2.2 k hk).2
  have hm := hT.1.2
  have c1 : ¬ (k : Int) < 0 := by clear e; omega
  have c2 : ¬ V 2 1 ≤ (k : Int) := by clear e; omega
  have j1 : 0 ≤ (k : Int) ∧ (k : Int) < 1600 := by clear e; omega
  simp only [en_TP_byteAt, e_TP_byteAt_0, k_TP_byteAt_0, e_TP_byteAt_1, k_TP_byteAt_1, e_TP_byteAt_2, k_TP_byteAt_2, rr, sh, Nat.reduceLT, Nat.reduceMul, Int.reduceToNat, Int.reduceGT, Int.reduceGE, Int.reduceNe, true_and, and_true, true_or, or_true, false_or, or_false, and_self, or_self, if_true, if_false, reduceIte, not_true_eq_false, not_false_eq_true, Int.reduceEq, Int.reduceNe, Int.reduceLT, Int.reduceLE, Int.reduceAdd, Int.reduceSub, Int.reduceMul, Int.reduceNeg, Nat.reduceAdd, Nat.reduceLeDiff, Nat.reduceEqDiff, ne_eq, List.length_cons, List.length_nil, Nat.reduceSub, h0, h1, h3, c1, c2, j1, b_and255]
  rw [show bt V k = V 3 k % 256 from e] at hQ
  exact hQ
theorem ix10 {k n : Nat} (h : k < n) (hn : n ≤ 12) : w32 (10 + w32 (2 * (k : Int))) = ((10 + 2 * k : Nat) : Int) ∧ w32 (11 + w32 (2 * (k : Int))) = ((11 + 2 * k : Nat) : Int) := by
  rw [w32_id (x := 2 * (k : Int)) (by omega) (by omega), w32_id (by omega) (by omega), w32_id (by omega) (by omega)]
  omega
/-- which are seen -/
def seenR (V : Hp) (x k : Nat) : Prop := x < 4096 ∧ (∀ r : Nat, r < 12 → (x.testBit r = true ↔ ∃ j, j < k ∧ who V j = r + 1)) ∧ pop x = cntW V k
theorem seenR_0 : seenR V 0 0 := by
  refine ⟨by decide, fun r _ => ⟨fun z => ?_, fun z => ?_⟩, ?_⟩
  · rw [Nat.zero_testBit] at z; cases z
  · obtain ⟨j, j1, -⟩ := z
    exact absurd j1 (Nat.not_lt_zero j)
  · show pop 0 = 0
    decide +kernel
set_option maxRecDepth 20000 in
theorem c_canSitSo (hI : Inq V) (hT : TapeR V) (hL : V 2 1 = ((11 + 2 * nS V : Nat) : Int)) (hno : ¬ (okR V (nS V) ∧ cntW V (nS V) = min (nS V : Int) (nR V)) → Q (vi 0) V) (hQ : okR V (nS V) ∧ cntW V (nS V) = min (nS V : Int) (nR V) → Q (vi 1) V) : CC (d + 2) CW_rowersCanSitSo [va 4, va 2] V Q := by
  have hn := hI.boat.s
  have hr := hI.boat.r
  have h0 := hI.plan.seats
  have h6 := hI.plan.rowers
  have p20 : V 2 0 = 3 := hI.ptr (2, 0, 3) (by decide +kernel)
  simp only [en_CW_rowersCanSitSo, e_CW_rowersCanSitSo_0, k_CW_rowersCanSitSo_0, rr, sh, Nat.reduceLT, Nat.reduceMul, Int.reduceToNat, Int.reduceGT, Int.reduceGE, Int.reduceNe, true_and, and_true, true_or, or_true, false_or, or_false, and_self, or_self, if_true, if_false, reduceIte, not_true_eq_false, not_false_eq_true, Int.reduceEq, Int.reduceNe, Int.reduceLT, Int.reduceLE, Int.reduceAdd, Int.reduceSub, Int.reduceMul, Int.reduceNeg, Nat.reduceAdd, Nat.reduceLeDiff, Nat.reduceEqDiff, ne_eq, List.length_cons, List.length_nil, Nat.reduceSub]
  refine up_nat (P := fun k => ∀ x (y : AV), seenR V x k → okR V k → R (d + 2) CW_rowersCanSitSo (blk CW_rowersCanSitSo 1) [va 4, va 2, vi (x : Nat), vi k, y] [] V Q) ?_ ?_ 0 (Nat.zero_le (nS V)) 0 vu seenR_0 (fun k hk => absurd hk (Nat.not_lt_zero k))
  · intro x y hx ho
    have z1 := shp hI
    have hb : ∀ {Q : AV → Hp → Prop}, CC (d + 1) JK_bitCount [vi (x : Int)] V Q = Q (vi (cntW V (nS V))) V := fun {Q} => by rw [q_bitCount hx.1, hx.2.2]
    rw [e_CW_rowersCanSitSo_1]
    by_cases h : cntW V (nS V) = min (nS V : Int) (nR V)
    · simp only [k_CW_rowersCanSitSo_1, e_CW_rowersCanSitSo_5, k_CW_rowersCanSitSo_5, e_CW_rowersCanSitSo_6, k_CW_rowersCanSitSo_6, e_CW_rowersCanSitSo_7, k_CW_rowersCanSitSo_7, en_PL_seatedAtFirst, e_PL_seatedAtFirst_0, k_PL_seatedAtFirst_0, rr, sh, Nat.reduceLT, Nat.reduceMul, Int.reduceToNat, Int.reduceGT, Int.reduceGE, Int.reduceNe, true_and, and_true, true_or, or_true, false_or, or_false, and_self, or_self, if_true, if_false, reduceIte, not_true_eq_false, not_false_eq_true, Int.reduceEq, Int.reduceNe, Int.reduceLT, Int.reduceLE, Int.reduceAdd, Int.reduceSub, Int.reduceMul, Int.reduceNeg, Nat.reduceAdd, Nat.reduceLeDiff, Nat.reduceEqDiff, ne_eq, List.length_cons, List.length_nil, Nat.reduceSub, z1, h0, h6, Int.le_refl, hb, q_minI, h]
      exact hQ ⟨ho, h⟩
    · simp only [k_CW_rowersCanSitSo_1, e_CW_rowersCanSitSo_5, k_CW_rowersCanSitSo_5, e_CW_rowersCanSitSo_6, k_CW_rowersCanSitSo_6, e_CW_rowersCanSitSo_7, k_CW_rowersCanSitSo_7, en_PL_seatedAtFirst, e_PL_seatedAtFirst_0, k_PL_seatedAtFirst_0, rr, sh, Nat.reduceLT, Nat.reduceMul, Int.reduceToNat, Int.reduceGT, Int.reduceGE, Int.reduceNe, true_and, and_true, true_or, or_true, false_or, or_false, and_self, or_self, if_true, if_false, reduceIte, not_true_eq_false, not_false_eq_true, Int.reduceEq, Int.reduceNe, Int.reduceLT, Int.reduceLE, Int.reduceAdd, Int.reduceSub, Int.reduceMul, Int.reduceNeg, Nat.reduceAdd, Nat.reduceLeDiff, Nat.reduceEqDiff, ne_eq, List.length_cons, List.length_nil, Nat.reduceSub, z1, h0, h6, Int.le_refl, hb, q_minI, h]
      exact hno (fun z => h z.2)
  · intro k hk ih x y hx ho
    have c1 : ¬ (nS V : Int) ≤ k := by clear ih hx ho hno hQ; omega
    have kw := w32_s (n := k) (by clear ih hx ho hno hQ; omega)
    obtain ⟨i1, -⟩ := ix10 hk hn.2
    have hb1 : ((10 + 2 * k : Nat) : Int) < V 2 1 := by rw [hL]; clear ih hx ho hno hQ i1 kw; omega
    have hbr : 0 ≤ who V k ∧ who V k < 256 := bt_rng hT hb1
    have kb : ∀ {Q : AV → Hp → Prop}, CC (d + 1) TP_byteAt [va 2, vi ((10 + 2 * k : Nat) : Int)] V Q = Q (vi (who V k)) V := fun {Q} => q_byteAt hT p20 rfl rfl hb1
    have w1 : w32 (who V k - 1) = who V k - 1 := w32_id (by clear ih hx ho hno hQ i1 kw; omega) (by clear ih hx ho hno hQ i1 kw; omega)
    have hcnt : cntW V (k + 1) = cntW V k + if 0 < who V k then 1 else 0 := rfl
    have z1 := shp hI
    rw [e_CW_rowersCanSitSo_1]
    by_cases h : who V k = 0
    · have e1 : who V k - 1 = -1 := by rw [h]; rfl
      simp only [k_CW_rowersCanSitSo_1, e_CW_rowersCanSitSo_2, k_CW_rowersCanSitSo_2, e_CW_rowersCanSitSo_3, k_CW_rowersCanSitSo_3, e_CW_rowersCanSitSo_4, k_CW_rowersCanSitSo_4, rr, sh, Nat.reduceLT, Nat.reduceMul, Int.reduceToNat, Int.reduceGT, Int.reduceGE, Int.reduceNe, true_and, and_true, true_or, or_true, false_or, or_false, and_self, or_self, if_true, if_false, reduceIte, not_true_eq_false, not_false_eq_true, Int.reduceEq, Int.reduceNe, Int.reduceLT, Int.reduceLE, Int.reduceAdd, Int.reduceSub, Int.reduceMul, Int.reduceNeg, Nat.reduceAdd, Nat.reduceLeDiff, Nat.reduceEqDiff, ne_eq, List.length_cons, List.length_nil, Nat.reduceSub, z1, h0, c1, i1, kb, w1, e1, kw]
      refine ih x _ ⟨hx.1, fun r hr12 => ⟨fun z => ?_, fun z => ?_⟩, ?_⟩ ?_
      · obtain ⟨j, j1, j2⟩ := (hx.2.1 r hr12).mp z
        exact ⟨j, Nat.lt_succ_of_lt j1, j2⟩
      · obtain ⟨j, j1, j2⟩ := z
        refine (hx.2.1 r hr12).mpr ⟨j, Nat.lt_of_le_of_ne (Nat.le_of_lt_succ j1) (fun e => ?_), j2⟩
        rw [e, h] at j2
        clear ih hx ho hno hQ i1 kw w1 hcnt z1; omega
      · rw [hcnt, if_neg (by rw [h]; decide), Int.add_zero]; exact hx.2.2
      · intro k' hk'
        by_cases e : k' = k
        · subst e
          rw [h]
          exact ⟨Int.natCast_nonneg _, fun z => absurd z (by decide)⟩
        · exact ho k' (Nat.lt_of_le_of_ne (Nat.le_of_lt_succ hk') e)
    · obtain ⟨r, hrr⟩ := Int.eq_ofNat_of_zero_le (show 0 ≤ who V k - 1 by clear ih hx ho hno hQ i1 kw w1 hcnt z1; omega)
      have hw : who V k = r + 1 := by clear ih hx ho hno hQ i1 kw w1 hcnt z1; omega
      have e1 : ¬ (r : Int) = -1 := by clear ih hx ho hno hQ i1 kw w1 hcnt z1 hw; omega
      have w1 := w1.trans hrr
      by_cases c2 : (r : Int) < nR V
      · have c2' : 0 ≤ (r : Int) ∧ (r : Int) < nR V := ⟨Int.natCast_nonneg _, c2⟩
        have r12 : r < 12 := by clear ih hx ho hno hQ i1 kw w1 hcnt z1 hw; omega
        have bb := b_bit (a := x) (k := r) (Nat.lt_trans hx.1 (by decide)) (Nat.lt_trans r12 (by decide))
        cases hbt : x.testBit r
        · have hp : (1 : Nat) * 2 ^ r < 4096 := by
            have := Nat.pow_le_pow_right (show 0 < 2 by decide) (show r ≤ 11 by clear ih hx ho hno hQ i1 kw w1 hcnt z1 hw bb; omega)
            clear ih hx ho hno hQ i1 kw w1 hcnt z1 hw bb; omega
          have hx1 := hx.1
          have w3 : b_shl 1 r = ((1 * 2 ^ r : Nat) : Int) := b_shl_nat (a := 1) (Nat.lt_trans r12 (by decide)) (Nat.lt_trans hp (by decide))
          have w4 : b_or (x : Int) ((1 * 2 ^ r : Nat) : Int) = ((x ||| 1 * 2 ^ r : Nat) : Int) := b_or_nat (Nat.lt_trans hx1 (by decide)) (Nat.lt_trans hp (by decide))
          rw [hbt] at bb
          simp only [Bool.false_eq_true, if_false] at bb
          simp only [k_CW_rowersCanSitSo_1, e_CW_rowersCanSitSo_2, k_CW_rowersCanSitSo_2, e_CW_rowersCanSitSo_3, k_CW_rowersCanSitSo_3, e_CW_rowersCanSitSo_4, k_CW_rowersCanSitSo_4, rr, sh, Nat.reduceLT, Nat.reduceMul, Int.reduceToNat, Int.reduceGT, Int.reduceGE, Int.reduceNe, true_and, and_true, true_or, or_true, false_or, or_false, and_self, or_self, if_true, if_false, reduceIte, not_true_eq_false, not_false_eq_true, Int.reduceEq, Int.reduceNe, Int.reduceLT, Int.reduceLE, Int.reduceAdd, Int.reduceSub, Int.reduceMul, Int.reduceNeg, Nat.reduceAdd, Nat.reduceLeDiff, Nat.reduceEqDiff, ne_eq, List.length_cons, List.length_nil, Nat.reduceSub, z1, h0, h6, c1, i1, kb, w1, e1, q_isRower z1, c2', kw, bb, w3, w4]
          refine ih (x ||| 1 * 2 ^ r) _ ⟨Nat.or_lt_two_pow (n := 12) hx1 hp, fun q hq12 => ?_, ?_⟩ ?_
          · rw [Nat.testBit_or, Nat.one_mul, Nat.testBit_two_pow, Bool.or_eq_true, decide_eq_true_eq, hx.2.1 q hq12]
            constructor
            · rintro (⟨j, j1, j2⟩ | e)
              · exact ⟨j, Nat.lt_succ_of_lt j1, j2⟩
              · exact ⟨k, Nat.lt_succ_self k, by rw [hw, e]⟩
            · rintro ⟨j, j1, j2⟩
              by_cases e : j = k
              · right
                rw [e, hw] at j2
                clear ih hx ho hno hQ i1 kw w1 hcnt z1 hw bb w3 w4; omega
              · exact Or.inl ⟨j, Nat.lt_of_le_of_ne (Nat.le_of_lt_succ j1) e, j2⟩
          · rw [hcnt, if_pos (by rw [hw]; clear ih hx ho hno hQ i1 kw w1 hcnt z1 hw bb w3 w4; omega), pop_or r12 hbt, hx.2.2]
          · intro k' hk'
            by_cases e : k' = k
            · subst e
              refine ⟨by rw [hw]; clear ih hx ho hno hQ i1 kw w1 hcnt z1 hw bb w3 w4; omega, fun _ j hj z => ?_⟩
              have := (hx.2.1 r r12).mpr ⟨j, hj, by rw [z, hw]⟩
              rw [hbt] at this
              cases this
            · exact ho k' (Nat.lt_of_le_of_ne (Nat.le_of_lt_succ hk') e)
        · rw [hbt] at bb
          simp only [if_true] at bb
          simp only [k_CW_rowersCanSitSo_1, e_CW_rowersCanSitSo_2, k_CW_rowersCanSitSo_2, e_CW_rowersCanSitSo_3, k_CW_rowersCanSitSo_3, e_CW_rowersCanSitSo_4, k_CW_rowersCanSitSo_4, rr, sh, Nat.reduceLT, Nat.reduceMul, Int.reduceToNat, Int.reduceGT, Int.reduceGE, Int.reduceNe, true_and, and_true, true_or, or_true, false_or, or_false, and_self, or_self, if_true, if_false, reduceIte, not_true_eq_false, not_false_eq_true, Int.reduceEq, Int.reduceNe, Int.reduceLT, Int.reduceLE, Int.reduceAdd, Int.reduceSub, Int.reduceMul, Int.reduceNeg, Nat.reduceAdd, Nat.reduceLeDiff, Nat.reduceEqDiff, ne_eq, List.length_cons, List.length_nil, Nat.reduceSub, z1, h0, h6, c1, i1, kb, w1, e1, q_isRower z1, c2', kw, bb]
          refine hno fun z => ?_
          obtain ⟨j, j1, j2⟩ := (hx.2.1 r r12).mp hbt
          exact (z.1 k hk).2 (by rw [hw]; clear ih hx ho hno hQ i1 kw w1 hcnt z1 hw bb z j2; omega) j j1 (by rw [j2, hw])
      · have c2' : ¬ (0 ≤ (r : Int) ∧ (r : Int) < nR V) := fun z => c2 z.2
        simp only [k_CW_rowersCanSitSo_1, e_CW_rowersCanSitSo_2, k_CW_rowersCanSitSo_2, e_CW_rowersCanSitSo_3, k_CW_rowersCanSitSo_3, e_CW_rowersCanSitSo_4, k_CW_rowersCanSitSo_4, rr, sh, Nat.reduceLT, Nat.reduceMul, Int.reduceToNat, Int.reduceGT, Int.reduceGE, Int.reduceNe, true_and, and_true, true_or, or_true, false_or, or_false, and_self, or_self, if_true, if_false, reduceIte, not_true_eq_false, not_false_eq_true, Int.reduceEq, Int.reduceNe, Int.reduceLT, Int.reduceLE, Int.reduceAdd, Int.reduceSub, Int.reduceMul, Int.reduceNeg, Nat.reduceAdd, Nat.reduceLeDiff, Nat.reduceEqDiff, ne_eq, List.length_cons, List.length_nil, Nat.reduceSub, z1, h0, h6, c1, i1, kb, w1, e1, q_isRower z1, c2', kw]
        refine hno fun z => c2 ?_
        have := (z.1 k hk).1
        rw [hw] at this
        clear ih hx ho hno hQ i1 kw w1 hcnt z1 hw z; omega
end ON
