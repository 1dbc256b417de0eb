/-! seat, boat -/
def fixN (V : Hp) (n : Nat) : Int := sumI (fun k => if V 94 (12 + k) = 0 then 0 else 1) n
def wanN (V : Hp) (n : Nat) : Int := sumI (fun q => if wnt V q = true then 1 else 0) n
def boatS (V : Hp) (w : Int) : Int := if w = 0 then nS V else if w = 1 then nR V else if w = 2 then eaV V else if w = 3 then fixN V (nS V) else if w = 4 then wanN V 4 else if w = 5 then V 99 1 else if w = 6 then nU V else if w = 7 then nY V else if w = 8 then V 71 47 else if w = 9 then V 71 55 else if w = 10 then (nS V : Int) - pop (sdV V) else -1
theorem sumI_ext {f : Nat → Int} {n m : Nat} (h : n ≤ m) (h0 : ∀ k, n ≤ k → k < m → f k = 0) : sumI f m = sumI f n := by
  induction h with
  | refl => rfl
  | step hle ih =>
    rename_i m'
    show sumI f m' + f m' = _
    rw [ih (fun k h1 h2 => h0 k h1 (Nat.lt_succ_of_lt h2)), h0 m' hle (Nat.lt_succ_self m'), Int.add_zero]
theorem pop_upto {x n : Nat} (hn : n ≤ 12) (hx : x < 2 ^ n) : pop x = sumI (fun i => if x.testBit i = true then 1 else 0) n := by
  unfold pop
  refine sumI_ext hn (fun k h1 _ => ?_)
  rw [Nat.testBit_lt_two_pow (Nat.lt_of_lt_of_le hx (Nat.pow_le_pow_right (by decide) h1))]
  rfl
theorem fixN_rng (V : Hp) (n : Nat) : 0 ≤ fixN V n ∧ fixN V n ≤ n := by
  induction n with
  | zero => exact ⟨Int.le_refl _, Int.le_refl _⟩
  | succ n ih =>
    show 0 ≤ fixN V n + (if V 94 (12 + n) = 0 then 0 else 1) ∧ fixN V n + (if V 94 (12 + n) = 0 then 0 else 1) ≤ _
    split <;> omega
theorem wanN_rng (V : Hp) (n : Nat) : 0 ≤ wanN V n ∧ wanN V n ≤ n := by
  induction n with
  | zero => exact ⟨Int.le_refl _, Int.le_refl _⟩
  | succ n ih =>
    show 0 ≤ wanN V n + (if wnt V n = true then 1 else 0) ∧ wanN V n + (if wnt V n = true then 1 else 0) ≤ _
    split <;> omega
section BO
variable {d : Nat} {V H : Hp} {Q : AV → Hp → Prop}
theorem fix_bits (hI : Inq V) : ∃ f g : Nat, V (V 4 0) 4 = f ∧ V (V 4 0) 5 = g ∧ f < 4096 ∧ g < 4096 ∧ f ||| g < 2 ^ nS V ∧ g < 2 ^ nS V ∧ (∀ k : Nat, k < nS V → (f ||| g).testBit k = decide (V 94 (12 + k) ≠ 0)) ∧ ∀ k : Nat, k < nS V → g.testBit k = decide (V 94 (12 + k) = 2) := by
  have hn := hI.boat.s
  obtain ⟨f, g, h1, h2, h3, h4, h5⟩ := hI.plan.fixed
  refine ⟨f, g, h1, h2, bits_lt hn.2 h3, bits_lt hn.2 h4, Nat.or_lt_two_pow h3 h4, h4, fun k hk => ?_, fun k hk => (h5 k hk).2⟩
  have hf := hI.boat.fix k hk
  rw [Nat.testBit_or, (h5 k hk).1, (h5 k hk).2]
  by_cases a : V 94 (12 + k) = 1
  · simp [a]
  · by_cases b : V 94 (12 + k) = 2
    · simp [b]
    · have : V 94 (12 + k) = 0 := by omega
      simp [this]
set_option maxRecDepth 20000 in
theorem q_isFixedC (hI : Inq V) (hH : Vw V H) {k : Nat} (hk : k < nS V) : CC d PL_isFixed [va (V 4 0), vi k] H Q = Q (vi (if V 94 (12 + k) = 0 then 0 else 1)) H := by
  refine CC_dt fun Q hQ => ?_
  have hn := hI.boat.s
  obtain ⟨f', g', e1, e2, hf, hg, ho, -, hb, -⟩ := fix_bits hI
  have ho2 := bits_lt hn.2 ho
  have hbk := hb k hk
  have z1 := shp hI
  have j1 : f' < 2147483648 := by omega
  have j2 : g' < 2147483648 := by omega
  have j3 : f' ||| g' < 2147483648 := by omega
  have j4 : k < 32 := by omega
  have f := hH.f hI.ptr; have g := pl_f hH hI.pp hI.ptr; simp only [en_PL_isFixed, e_PL_isFixed_0, k_PL_isFixed_0, e_PL_isFixed_1, k_PL_isFixed_1, e_PL_isFixed_2, k_PL_isFixed_2, rr, sh, Nat.reduceLT, Nat.reduceMul, Int.reduceToNat, Int.reduceGT, Int.reduceGE, Int.reduceNe, true_and, and_true, true_or, or_true, false_or, or_false, and_self, or_self, if_true, if_false, reduceIte, not_true_eq_false, not_false_eq_true, Int.reduceEq, Int.reduceNe, Int.reduceLT, Int.reduceLE, Int.reduceAdd, Int.reduceSub, Int.reduceMul, Int.reduceNeg, Nat.reduceAdd, Nat.reduceLeDiff, Nat.reduceEqDiff, ne_eq, List.length_cons, List.length_nil, Nat.reduceSub, ite10_0, ite10_1, ite10_01, Classical.not_not, f, g, z1, e1, e2, b_or_nat j1 j2, b_bit j3 j4, hbk] <;> clear f g e1 e2
  by_cases h : V 94 (12 + k) = 0
  · rw [if_pos h] at hQ; simpa [h] using hQ
  · rw [if_neg h] at hQ; simpa [h] using hQ
set_option maxRecDepth 20000 in
theorem q_seatC (hI : Inq V) (hH : Vw V H) {s w : Int} : CC (d + 3) EO_seat [va 1, vi s, vi w] H Q = Q (vi (seatS V s w)) H := by
  refine CC_dt fun Q hQ => ?_
  have z1 := shp hI
  have h1 := hI.plan.seats
  have ht := hI.crew.stroke
  have i2 : V 71 47 ≤ 100000 := by omega
  have e1 := hI.cc.stroke
  have hn := hI.boat.s
  unfold seatS at hQ
  by_cases hr : 0 ≤ s ∧ s < nS V
  · rw [if_pos hr] at hQ
    obtain ⟨k, rfl⟩ := Int.eq_ofNat_of_zero_le hr.1
    have hk : k < nS V := by omega
    have j1 : 0 ≤ (k : Int) ∧ (k : Int) < 12 := by omega
    have e2 := hI.plan.place k hk
    have e3 := hI.plan.arm k hk
    have e4 := hI.cc.sits k (by omega)
    have e5 := hI.cc.right k hk
    have b1 := frc_rng hI.m (show k < 12 by omega) ht.1
    have b2 := hI.boat.arm k hk
    have hm : 0 ≤ frc V k (V 71 47) * V 93 (12 + k) ∧ frc V k (V 71 47) * V 93 (12 + k) ≤ 99 * 99 := ⟨Int.mul_nonneg b1.1 (by omega), Int.mul_le_mul b1.2 b2.2 (by omega) (by omega)⟩
    have w1 : w32 (frc V k (V 71 47) * V 93 (12 + k)) = frc V k (V 71 47) * V 93 (12 + k) := w32_id (by omega) (by omega)
    have tk : (k : Int).toNat = k := Int.toNat_natCast k
    rw [tk] at hQ
    have f := hH.f hI.ptr; have g := pl_f hH hI.pp hI.ptr; simp only [en_EO_seat, e_EO_seat_0, k_EO_seat_0, e_EO_seat_1, k_EO_seat_1, e_EO_seat_2, k_EO_seat_2, e_EO_seat_3, k_EO_seat_3, e_EO_seat_4, k_EO_seat_4, e_EO_seat_5, k_EO_seat_5, e_EO_seat_6, k_EO_seat_6, e_EO_seat_7, k_EO_seat_7, e_EO_seat_8, k_EO_seat_8, e_EO_seat_9, k_EO_seat_9, e_EO_seat_10, k_EO_seat_10, rr, sh, Nat.reduceLT, Nat.reduceMul, Int.reduceToNat, Int.reduceGT, Int.reduceGE, Int.reduceNe, true_and, and_true, true_or, or_true, false_or, or_false, and_self, or_self, if_true, if_false, reduceIte, not_true_eq_false, not_false_eq_true, Int.reduceEq, Int.reduceNe, Int.reduceLT, Int.reduceLE, Int.reduceAdd, Int.reduceSub, Int.reduceMul, Int.reduceNeg, Nat.reduceAdd, Nat.reduceLeDiff, Nat.reduceEqDiff, ne_eq, List.length_cons, List.length_nil, Nat.reduceSub, ite10_0, ite10_1, ite10_01, Classical.not_not, f, g, z1, q_isSeat, h1, hr, RSW_c, RSW_n, e1, e2, e3, e4, e5, w1, j1, q_isFixedC hI hH hk, q_forceIn hI hH hk ht.1 i2] <;> clear f g e1 e2 e3 e4 e5 w1
    clear hm b1 b2
    by_cases w0 : w = 0
    · subst w0; simpa using hQ
    · by_cases w1 : w = 1
      · subst w1; simpa using hQ
      · by_cases w2 : w = 2
        · subst w2; simpa using hQ
        · by_cases w3 : w = 3
          · subst w3; simpa using hQ
          · by_cases w4 : w = 4
            · subst w4
              by_cases h : V 94 (12 + k) = 0
              · simpa [h] using hQ
              · simpa [h] using hQ
            · by_cases w5 : w = 5
              · subst w5; simpa using hQ
              · simpa [w0, w1, w2, w3, w4, w5] using hQ
  · rw [if_neg hr] at hQ
    have f := hH.f hI.ptr; have g := pl_f hH hI.pp hI.ptr; simp only [en_EO_seat, e_EO_seat_0, k_EO_seat_0, e_EO_seat_1, k_EO_seat_1, e_EO_seat_2, k_EO_seat_2, e_EO_seat_3, k_EO_seat_3, e_EO_seat_4, k_EO_seat_4, e_EO_seat_5, k_EO_seat_5, e_EO_seat_6, k_EO_seat_6, e_EO_seat_7, k_EO_seat_7, e_EO_seat_8, k_EO_seat_8, e_EO_seat_9, k_EO_seat_9, e_EO_seat_10, k_EO_seat_10, rr, sh, Nat.reduceLT, Nat.reduceMul, Int.reduceToNat, Int.reduceGT, Int.reduceGE, Int.reduceNe, true_and, and_true, true_or, or_true, false_or, or_false, and_self, or_self, if_true, if_false, reduceIte, not_true_eq_false, not_false_eq_true, Int.reduceEq, Int.reduceNe, Int.reduceLT, Int.reduceLE, Int.reduceAdd, Int.reduceSub, Int.reduceMul, Int.reduceNeg, Nat.reduceAdd, Nat.reduceLeDiff, Nat.reduceEqDiff, ne_eq, List.length_cons, List.length_nil, Nat.reduceSub, ite10_0, ite10_1, ite10_01, Classical.not_not, f, g, z1, q_isSeat, h1, hr] <;> clear f g
    exact hQ
set_option maxRecDepth 20000 in
theorem q_seatM (hM : Inm V) (hH : Vw V H) {s w : Int} : CC (d + 3) MO_seat [va 71, vi s, vi w] H Q = Q (vi (seatS V s w)) H := by
  refine CC_dt fun Q hQ => ?_
  have ht := hM.crew.stroke
  have i2 : V 71 47 ≤ 100000 := by omega
  have hn := hM.boat.s
  have w9 : w32 ((nS V : Int) - 1) = nS V - 1 := w32_id (by omega) (by omega)
  have hb := sdV_lt hM
  have e1 := hM.crew.sides.1
  unfold seatS at hQ
  by_cases hr : 0 ≤ s ∧ s ≤ (nS V : Int) - 1
  · rw [if_pos (by omega)] at hQ
    obtain ⟨k, rfl⟩ := Int.eq_ofNat_of_zero_le hr.1
    have hk : k < nS V := by omega
    have j1 : 0 ≤ (k : Int) ∧ (k : Int) < 12 := by omega
    have j2 : (0 ≤ 12 + (k : Int)) ∧ 12 + (k : Int) < 24 := by omega
    have w8 : w32 (12 + (k : Int)) = 12 + k := w32_id (by omega) (by omega)
    have tk : (k : Int).toNat = k := Int.toNat_natCast k
    rw [tk] at hQ
    have f := hH.f hM.ptr; simp only [en_MO_seat, e_MO_seat_0, k_MO_seat_0, e_MO_seat_1, k_MO_seat_1, e_MO_seat_2, k_MO_seat_2, e_MO_seat_3, k_MO_seat_3, e_MO_seat_4, k_MO_seat_4, e_MO_seat_5, k_MO_seat_5, e_MO_seat_6, k_MO_seat_6, e_MO_seat_7, k_MO_seat_7, e_MO_seat_8, k_MO_seat_8, e_MO_seat_9, k_MO_seat_9, e_MO_seat_10, k_MO_seat_10, en_MO_isSeat, e_MO_isSeat_0, k_MO_isSeat_0, en_MO_seats, e_MO_seats_0, k_MO_seats_0, en_MO_isFixed, e_MO_isFixed_0, k_MO_isFixed_0, e_MO_isFixed_1, k_MO_isFixed_1, e_MO_isFixed_2, k_MO_isFixed_2, rr, sh, Nat.reduceLT, Nat.reduceMul, Int.reduceToNat, Int.reduceGT, Int.reduceGE, Int.reduceNe, true_and, and_true, true_or, or_true, false_or, or_false, and_self, or_self, if_true, if_false, reduceIte, not_true_eq_false, not_false_eq_true, Int.reduceEq, Int.reduceNe, Int.reduceLT, Int.reduceLE, Int.reduceAdd, Int.reduceSub, Int.reduceMul, Int.reduceNeg, Nat.reduceAdd, Nat.reduceLeDiff, Nat.reduceEqDiff, ne_eq, List.length_cons, List.length_nil, Nat.reduceSub, ite10_0, ite10_1, ite10_01, Classical.not_not, f, q_isIn, hn.1, w9, hr, RSW_c, RSW_n, w8, j1, j2, e1, b_bit (show sdV V < 2147483648 by omega) (show k < 32 by omega), q_pullOf hM hH hk ht.1 i2] <;> clear f w9 w8 e1
    by_cases w0 : w = 0
    · subst w0; simpa using hQ
    · by_cases w1 : w = 1
      · subst w1; simpa using hQ
      · by_cases w2 : w = 2
        · subst w2; simpa using hQ
        · by_cases w3 : w = 3
          · subst w3; simpa using hQ
          · by_cases w4 : w = 4
            · subst w4
              by_cases h : V 94 (12 + k) = 0
              · simpa [h] using hQ
              · simpa [h] using hQ
            · by_cases w5 : w = 5
              · subst w5; simpa using hQ
              · simpa [w0, w1, w2, w3, w4, w5] using hQ
  · rw [if_neg (by omega)] at hQ
    have f := hH.f hM.ptr; simp only [en_MO_seat, e_MO_seat_0, k_MO_seat_0, e_MO_seat_1, k_MO_seat_1, e_MO_seat_2, k_MO_seat_2, e_MO_seat_3, k_MO_seat_3, e_MO_seat_4, k_MO_seat_4, e_MO_seat_5, k_MO_seat_5, e_MO_seat_6, k_MO_seat_6, e_MO_seat_7, k_MO_seat_7, e_MO_seat_8, k_MO_seat_8, e_MO_seat_9, k_MO_seat_9, e_MO_seat_10, k_MO_seat_10, en_MO_isSeat, e_MO_isSeat_0, k_MO_isSeat_0, en_MO_seats, e_MO_seats_0, k_MO_seats_0, en_MO_isFixed, e_MO_isFixed_0, k_MO_isFixed_0, e_MO_isFixed_1, k_MO_isFixed_1, e_MO_isFixed_2, k_MO_isFixed_2, rr, sh, Nat.reduceLT, Nat.reduceMul, Int.reduceToNat, Int.reduceGT, Int.reduceGE, Int.reduceNe, true_and, and_true, true_or, or_true, false_or, or_false, and_self, or_self, if_true, if_false, reduceIte, not_true_eq_false, not_false_eq_true, Int.reduceEq, Int.reduceNe, Int.reduceLT, Int.reduceLE, Int.reduceAdd, Int.reduceSub, Int.reduceMul, Int.reduceNeg, Nat.reduceAdd, Nat.reduceLeDiff, Nat.reduceEqDiff, ne_eq, List.length_cons, List.length_nil, Nat.reduceSub, ite10_0, ite10_1, ite10_01, Classical.not_not, f, q_isIn, hn.1, w9, hr] <;> clear f w9
    exact hQ
set_option maxRecDepth 20000 in
theorem q_fixedMany (hM : Inm V) (hH : Vw V H) : CC (d + 1) MO_fixedMany [va 71] H Q = Q (vi (fixN V (nS V))) H := by
  refine CC_dt fun Q hQ => ?_
  have hn := hM.boat.s
  have f := hH.f hM.ptr; simp only [en_MO_fixedMany, e_MO_fixedMany_0, k_MO_fixedMany_0, rr, sh, Nat.reduceLT, Nat.reduceMul, Int.reduceToNat, Int.reduceGT, Int.reduceGE, Int.reduceNe, true_and, and_true, true_or, or_true, false_or, or_false, and_self, or_self, if_true, if_false, reduceIte, not_true_eq_false, not_false_eq_true, Int.reduceEq, Int.reduceNe, Int.reduceLT, Int.reduceLE, Int.reduceAdd, Int.reduceSub, Int.reduceMul, Int.reduceNeg, Nat.reduceAdd, Nat.reduceLeDiff, Nat.reduceEqDiff, ne_eq, List.length_cons, List.length_nil, Nat.reduceSub, ite10_0, ite10_1, ite10_01, Classical.not_not, f] <;> clear f
  (repeat (refine And.intro (by omega) ?_))
  refine up_nat (P := fun k => R (d + 1) MO_fixedMany (blk MO_fixedMany 1) [va 71, vi (fixN V k), vi k] [] H Q) ?_ ?_ 0 (Nat.zero_le (nS V))
  · rw [e_MO_fixedMany_1]
    have f := hH.f hM.ptr; simp only [k_MO_fixedMany_1, e_MO_fixedMany_3, k_MO_fixedMany_3, en_MO_seats, e_MO_seats_0, k_MO_seats_0, rr, sh, Nat.reduceLT, Nat.reduceMul, Int.reduceToNat, Int.reduceGT, Int.reduceGE, Int.reduceNe, true_and, and_true, true_or, or_true, false_or, or_false, and_self, or_self, if_true, if_false, reduceIte, not_true_eq_false, not_false_eq_true, Int.reduceEq, Int.reduceNe, Int.reduceLT, Int.reduceLE, Int.reduceAdd, Int.reduceSub, Int.reduceMul, Int.reduceNeg, Nat.reduceAdd, Nat.reduceLeDiff, Nat.reduceEqDiff, ne_eq, List.length_cons, List.length_nil, Nat.reduceSub, ite10_0, ite10_1, ite10_01, Classical.not_not, f, hn.1, Int.le_refl] <;> clear f
    exact hQ
  · intro k hk ih
    have c1 : ¬ (nS V : Int) ≤ k := by omega
    have hr := fixN_rng V k
    have w8 : w32 (12 + (k : Int)) = 12 + k := w32_id (by omega) (by omega)
    have w1 : w32 (fixN V k + 1) = fixN V k + 1 := w32_id (by omega) (by omega)
    have j2 : (0 ≤ 12 + (k : Int)) ∧ 12 + (k : Int) < 24 := by omega
    have eg : fixN V (k + 1) = fixN V k + if V 94 (12 + k) = 0 then 0 else 1 := rfl
    rw [eg] at ih
    rw [e_MO_fixedMany_1]
    have f := hH.f hM.ptr; simp only [k_MO_fixedMany_1, e_MO_fixedMany_2, k_MO_fixedMany_2, en_MO_seats, e_MO_seats_0, k_MO_seats_0, en_MO_isFixed, e_MO_isFixed_0, k_MO_isFixed_0, e_MO_isFixed_1, k_MO_isFixed_1, e_MO_isFixed_2, k_MO_isFixed_2, rr, sh, Nat.reduceLT, Nat.reduceMul, Int.reduceToNat, Int.reduceGT, Int.reduceGE, Int.reduceNe, true_and, and_true, true_or, or_true, false_or, or_false, and_self, or_self, if_true, if_false, reduceIte, not_true_eq_false, not_false_eq_true, Int.reduceEq, Int.reduceNe, Int.reduceLT, Int.reduceLE, Int.reduceAdd, Int.reduceSub, Int.reduceMul, Int.reduceNeg, Nat.reduceAdd, Nat.reduceLeDiff, Nat.reduceEqDiff, ne_eq, List.length_cons, List.length_nil, Nat.reduceSub, ite10_0, ite10_1, ite10_01, Classical.not_not, f, hn.1, c1, w8, w1, j2, w32_s (show k < 2147483647 by clear eg; omega)] <;> clear f w8 w1
    by_cases h : V 94 (12 + k) = 0
    · rw [if_pos h, Int.add_zero] at ih; rw [if_pos h]; exact ih
    · rw [if_neg h] at ih; rw [if_neg h]; exact ih
set_option maxRecDepth 20000 in
theorem q_wantsM (hM : Inm V) (hH : Vw V H) : CC (d + 1) MO_wants [va 71] H Q = Q (vi (wanN V 4)) H := by
  refine CC_dt fun Q hQ => ?_
  have f := hH.f hM.ptr; simp only [en_MO_wants, e_MO_wants_0, k_MO_wants_0, rr, sh, Nat.reduceLT, Nat.reduceMul, Int.reduceToNat, Int.reduceGT, Int.reduceGE, Int.reduceNe, true_and, and_true, true_or, or_true, false_or, or_false, and_self, or_self, if_true, if_false, reduceIte, not_true_eq_false, not_false_eq_true, Int.reduceEq, Int.reduceNe, Int.reduceLT, Int.reduceLE, Int.reduceAdd, Int.reduceSub, Int.reduceMul, Int.reduceNeg, Nat.reduceAdd, Nat.reduceLeDiff, Nat.reduceEqDiff, ne_eq, List.length_cons, List.length_nil, Nat.reduceSub, ite10_0, ite10_1, ite10_01, Classical.not_not, f] <;> clear f
  (repeat (refine And.intro (by omega) ?_))
  refine up_nat (P := fun k => R (d + 1) MO_wants (blk MO_wants 1) [va 71, vi (wanN V k), vi k] [] H Q) ?_ ?_ 0 (Nat.zero_le 4)
  · rw [e_MO_wants_1]
    have f := hH.f hM.ptr; simp only [k_MO_wants_1, e_MO_wants_3, k_MO_wants_3, rr, sh, Nat.reduceLT, Nat.reduceMul, Int.reduceToNat, Int.reduceGT, Int.reduceGE, Int.reduceNe, true_and, and_true, true_or, or_true, false_or, or_false, and_self, or_self, if_true, if_false, reduceIte, not_true_eq_false, not_false_eq_true, Int.reduceEq, Int.reduceNe, Int.reduceLT, Int.reduceLE, Int.reduceAdd, Int.reduceSub, Int.reduceMul, Int.reduceNeg, Nat.reduceAdd, Nat.reduceLeDiff, Nat.reduceEqDiff, ne_eq, List.length_cons, List.length_nil, Nat.reduceSub, ite10_0, ite10_1, ite10_01, Classical.not_not, f, Int.le_refl] <;> clear f
    exact hQ
  · intro k hk ih
    have c1 : ¬ (4 : Int) ≤ k := by omega
    have hr := wanN_rng V k
    have w8 : w32 (4 + (k : Int)) = 4 + k := w32_id (by omega) (by omega)
    have w1 : w32 (wanN V k + 1) = wanN V k + 1 := w32_id (by omega) (by omega)
    have j2 : (0 ≤ 4 + (k : Int)) ∧ 4 + (k : Int) < 8 := by omega
    have eg : wanN V (k + 1) = wanN V k + if wnt V k = true then 1 else 0 := rfl
    rw [eg] at ih
    rw [e_MO_wants_1]
    have f := hH.f hM.ptr; simp only [k_MO_wants_1, e_MO_wants_2, k_MO_wants_2, en_MO_isWantedOf, e_MO_isWantedOf_0, k_MO_isWantedOf_0, e_MO_isWantedOf_1, k_MO_isWantedOf_1, e_MO_isWantedOf_2, k_MO_isWantedOf_2, rr, sh, Nat.reduceLT, Nat.reduceMul, Int.reduceToNat, Int.reduceGT, Int.reduceGE, Int.reduceNe, true_and, and_true, true_or, or_true, false_or, or_false, and_self, or_self, if_true, if_false, reduceIte, not_true_eq_false, not_false_eq_true, Int.reduceEq, Int.reduceNe, Int.reduceLT, Int.reduceLE, Int.reduceAdd, Int.reduceSub, Int.reduceMul, Int.reduceNeg, Nat.reduceAdd, Nat.reduceLeDiff, Nat.reduceEqDiff, ne_eq, List.length_cons, List.length_nil, Nat.reduceSub, ite10_0, ite10_1, ite10_01, Classical.not_not, f, c1, w8, w1, j2, w32_s (show k < 2147483647 by clear eg; omega)] <;> clear f w8 w1
    by_cases h : V 100 (4 + k) = 1
    · rw [if_pos (show wnt V k = true from decide_eq_true h)] at ih; rw [if_neg (fun q => q h)]; exact ih
    · rw [if_neg (show ¬ wnt V k = true from fun q => h (of_decide_eq_true q)), Int.add_zero] at ih; rw [if_pos h]; exact ih
set_option maxRecDepth 20000 in
theorem q_wantsC (hI : Inq V) (hH : Vw V H) : CC d PL_wants [va (V 4 0)] H Q = Q (vi (wanN V 4)) H := by
  refine CC_dt fun Q hQ => ?_
  have z1 := shp hI
  have f := hH.f hI.ptr; have g := pl_f hH hI.pp hI.ptr; simp only [en_PL_wants, e_PL_wants_0, k_PL_wants_0, rr, sh, Nat.reduceLT, Nat.reduceMul, Int.reduceToNat, Int.reduceGT, Int.reduceGE, Int.reduceNe, true_and, and_true, true_or, or_true, false_or, or_false, and_self, or_self, if_true, if_false, reduceIte, not_true_eq_false, not_false_eq_true, Int.reduceEq, Int.reduceNe, Int.reduceLT, Int.reduceLE, Int.reduceAdd, Int.reduceSub, Int.reduceMul, Int.reduceNeg, Nat.reduceAdd, Nat.reduceLeDiff, Nat.reduceEqDiff, ne_eq, List.length_cons, List.length_nil, Nat.reduceSub, ite10_0, ite10_1, ite10_01, Classical.not_not, f, g] <;> clear f g
  (repeat (refine And.intro (by omega) ?_))
  refine up_nat (P := fun k => R d PL_wants (blk PL_wants 1) [va (V 4 0), vi (wanN V k), vi k] [] H Q) ?_ ?_ 0 (Nat.zero_le 4)
  · rw [e_PL_wants_1]
    have f := hH.f hI.ptr; have g := pl_f hH hI.pp hI.ptr; simp only [k_PL_wants_1, e_PL_wants_3, k_PL_wants_3, rr, sh, Nat.reduceLT, Nat.reduceMul, Int.reduceToNat, Int.reduceGT, Int.reduceGE, Int.reduceNe, true_and, and_true, true_or, or_true, false_or, or_false, and_self, or_self, if_true, if_false, reduceIte, not_true_eq_false, not_false_eq_true, Int.reduceEq, Int.reduceNe, Int.reduceLT, Int.reduceLE, Int.reduceAdd, Int.reduceSub, Int.reduceMul, Int.reduceNeg, Nat.reduceAdd, Nat.reduceLeDiff, Nat.reduceEqDiff, ne_eq, List.length_cons, List.length_nil, Nat.reduceSub, ite10_0, ite10_1, ite10_01, Classical.not_not, f, g, Int.le_refl] <;> clear f g
    exact hQ
  · intro k hk ih
    have c1 : ¬ (4 : Int) ≤ k := by omega
    have hr := wanN_rng V k
    have w1 : w32 (wanN V k + 1) = wanN V k + 1 := w32_id (by omega) (by omega)
    have j2 : (0 ≤ (k : Int)) ∧ (k : Int) < 4 := by omega
    have k0 := want_ne hI hk
    have eg : wanN V (k + 1) = wanN V k + if wnt V k = true then 1 else 0 := rfl
    rw [eg] at ih
    rw [e_PL_wants_1]
    have f := hH.f hI.ptr; have g := pl_f hH hI.pp hI.ptr; simp only [k_PL_wants_1, e_PL_wants_2, k_PL_wants_2, rr, sh, Nat.reduceLT, Nat.reduceMul, Int.reduceToNat, Int.reduceGT, Int.reduceGE, Int.reduceNe, true_and, and_true, true_or, or_true, false_or, or_false, and_self, or_self, if_true, if_false, reduceIte, not_true_eq_false, not_false_eq_true, Int.reduceEq, Int.reduceNe, Int.reduceLT, Int.reduceLE, Int.reduceAdd, Int.reduceSub, Int.reduceMul, Int.reduceNeg, Nat.reduceAdd, Nat.reduceLeDiff, Nat.reduceEqDiff, ne_eq, List.length_cons, List.length_nil, Nat.reduceSub, ite10_0, ite10_1, ite10_01, Classical.not_not, f, g, z1, c1, w1, j2, c3_eq, k0, w32_s (show k < 2147483647 by clear eg k0; omega)] <;> clear f g w1
    by_cases h : wnt V k = true
    · rw [if_pos h] at ih; rw [if_neg (fun q => q h)]; exact ih
    · rw [if_neg h, Int.add_zero] at ih; rw [if_pos h]; exact ih
set_option maxRecDepth 20000 in
theorem q_boatC (hI : Inq V) (hH : Vw V H) (hU : V 4 11 = V 71 55) {w : Int} : CC (d + 2) EO_boat [va 1, vi w] H Q = Q (vi (boatS V w)) H := by
  refine CC_dt fun Q hQ => ?_
  have z1 := shp hI
  have hn := hI.boat.s
  have h1 := hI.plan.seats
  have h2 := hI.plan.rowers
  have h3 := hI.plan.left
  have h4 := hI.plan.near
  have h5 := hI.plan.runs
  have h6 := hI.plan.pays
  have h7 := hI.cc.stroke
  have hb := sdV_lt hI.m
  obtain ⟨f', g', e1, e2, hf, hg, ho, -, hbt, -⟩ := fix_bits hI
  have ho2 := bits_lt hn.2 ho
  have j1 : f' < 2147483648 := by omega
  have j2 : g' < 2147483648 := by omega
  have hp := pop_lt (n := sdV V)
  have w1 : w32 ((nS V : Int) - pop (sdV V)) = nS V - pop (sdV V) := w32_id (by omega) (by omega)
  have e3 : pop (f' ||| g') = fixN V (nS V) := by
    rw [pop_upto hn.2 ho]
    refine sumI_cg (fun k hk => ?_)
    rw [hbt k hk]
    by_cases h : V 94 (12 + k) = 0 <;> simp [h]
  unfold boatS at hQ
  have f := hH.f hI.ptr; have g := pl_f hH hI.pp hI.ptr; simp only [en_EO_boat, e_EO_boat_0, k_EO_boat_0, e_EO_boat_1, k_EO_boat_1, e_EO_boat_2, k_EO_boat_2, e_EO_boat_3, k_EO_boat_3, e_EO_boat_4, k_EO_boat_4, e_EO_boat_5, k_EO_boat_5, e_EO_boat_6, k_EO_boat_6, e_EO_boat_7, k_EO_boat_7, e_EO_boat_8, k_EO_boat_8, e_EO_boat_9, k_EO_boat_9, e_EO_boat_10, k_EO_boat_10, e_EO_boat_11, k_EO_boat_11, e_EO_boat_12, k_EO_boat_12, rr, sh, Nat.reduceLT, Nat.reduceMul, Int.reduceToNat, Int.reduceGT, Int.reduceGE, Int.reduceNe, true_and, and_true, true_or, or_true, false_or, or_false, and_self, or_self, if_true, if_false, reduceIte, not_true_eq_false, not_false_eq_true, Int.reduceEq, Int.reduceNe, Int.reduceLT, Int.reduceLE, Int.reduceAdd, Int.reduceSub, Int.reduceMul, Int.reduceNeg, Nat.reduceAdd, Nat.reduceLeDiff, Nat.reduceEqDiff, ne_eq, List.length_cons, List.length_nil, Nat.reduceSub, ite10_0, ite10_1, ite10_01, Classical.not_not, f, g, z1, RSW_c, RSW_n, h1, h2, h3, h4, h5, h6, h7, hU, e1, e2, b_or_nat j1 j2, q_bitCount ho2, e3, q_wantsC hI hH, q_sides hI hH, q_bitCount hb, w1] <;> clear f g e1 e2 e3 w1
  clear hp hbt
  by_cases w0 : w = 0
  · subst w0; simpa using hQ
  by_cases w1 : w = 1
  · subst w1; simpa using hQ
  by_cases w2 : w = 2
  · subst w2; simpa using hQ
  by_cases w3 : w = 3
  · subst w3; simpa using hQ
  by_cases w4 : w = 4
  · subst w4; simpa using hQ
  by_cases w5 : w = 5
  · subst w5; simpa using hQ
  by_cases w6 : w = 6
  · subst w6; simpa using hQ
  by_cases w7 : w = 7
  · subst w7; simpa using hQ
  by_cases w8 : w = 8
  · subst w8; simpa using hQ
  by_cases w9 : w = 9
  · subst w9; simpa using hQ
  by_cases w10 : w = 10
  · subst w10; simpa using hQ
  simpa [w0, w1, w2, w3, w4, w5, w6, w7, w8, w9, w10] using hQ
set_option maxRecDepth 20000 in
theorem q_boatM (hM : Inm V) (hH : Vw V H) {w : Int} : CC (d + 2) MO_boat [va 71, vi w] H Q = Q (vi (boatS V w)) H := by
  refine CC_dt fun Q hQ => ?_
  have hn := hM.boat.s
  have h2 := hM.boat.r.1
  have h3 := hM.boat.u.1
  have h4 := hM.boat.y.1
  have hb := sdV_lt hM
  have e1 := hM.crew.sides.1
  have hp := pop_lt (n := sdV V)
  have w1 : w32 ((nS V : Int) - pop (sdV V)) = nS V - pop (sdV V) := w32_id (by omega) (by omega)
  have hea : eaV V = if V 71 46 = 0 then -1 else V 98 1 := rfl
  unfold boatS at hQ
  rw [hea] at hQ
  have f := hH.f hM.ptr; simp only [en_MO_boat, e_MO_boat_0, k_MO_boat_0, e_MO_boat_1, k_MO_boat_1, e_MO_boat_2, k_MO_boat_2, e_MO_boat_3, k_MO_boat_3, e_MO_boat_4, k_MO_boat_4, e_MO_boat_5, k_MO_boat_5, e_MO_boat_6, k_MO_boat_6, e_MO_boat_7, k_MO_boat_7, e_MO_boat_8, k_MO_boat_8, e_MO_boat_9, k_MO_boat_9, e_MO_boat_10, k_MO_boat_10, e_MO_boat_11, k_MO_boat_11, e_MO_boat_12, k_MO_boat_12, en_MO_seats, e_MO_seats_0, k_MO_seats_0, en_MO_rowers, e_MO_rowers_0, k_MO_rowers_0, en_MO_each, e_MO_each_0, k_MO_each_0, e_MO_each_1, k_MO_each_1, e_MO_each_2, k_MO_each_2, en_MO_near, e_MO_near_0, k_MO_near_0, en_MO_runs, e_MO_runs_0, k_MO_runs_0, rr, sh, Nat.reduceLT, Nat.reduceMul, Int.reduceToNat, Int.reduceGT, Int.reduceGE, Int.reduceNe, true_and, and_true, true_or, or_true, false_or, or_false, and_self, or_self, if_true, if_false, reduceIte, not_true_eq_false, not_false_eq_true, Int.reduceEq, Int.reduceNe, Int.reduceLT, Int.reduceLE, Int.reduceAdd, Int.reduceSub, Int.reduceMul, Int.reduceNeg, Nat.reduceAdd, Nat.reduceLeDiff, Nat.reduceEqDiff, ne_eq, List.length_cons, List.length_nil, Nat.reduceSub, ite10_0, ite10_1, ite10_01, Classical.not_not, f, RSW_c, RSW_n, hn.1, h2, h3, h4, e1, w1, q_fixedMany hM hH, q_wantsM hM hH, q_bits hb] <;> clear f e1 w1
  clear hp hea
  by_cases w0 : w = 0
  · subst w0; simpa using hQ
  by_cases w1 : w = 1
  · subst w1; simpa using hQ
  by_cases w2 : w = 2
  · subst w2
    by_cases h : V 71 46 = 0
    · simpa [h] using hQ
    · simpa [h] using hQ
  by_cases w3 : w = 3
  · subst w3; simpa using hQ
  by_cases w4 : w = 4
  · subst w4; simpa using hQ
  by_cases w5 : w = 5
  · subst w5; simpa using hQ
  by_cases w6 : w = 6
  · subst w6; simpa using hQ
  by_cases w7 : w = 7
  · subst w7; simpa using hQ
  by_cases w8 : w = 8
  · subst w8; simpa using hQ
  by_cases w9 : w = 9
  · subst w9; simpa using hQ
  by_cases w10 : w = 10
  · subst w10; simpa using hQ
  simpa [w0, w1, w2, w3, w4, w5, w6, w7, w8, w9, w10] using hQ
end BO
