/-! made: the class's search, the reference's count; the pair -/
def s663 (a b : Int) : Bool := if a = 66 then decide (b = 3) else false
theorem par_c : ∀ c p : Nat, c < 17 → p < 17 → c ≤ p → c * (c + 1) % 2 = 0 ∧ c * (2 * p - c + 1) % 2 = 0 ∧ c * (c + 1) ≤ 272 ∧ c * (2 * p - c + 1) ≤ 1000 := by
  have h : (List.range 17).all (fun c => (List.range 17).all (fun p => !decide (c ≤ p) || decide (c * (c + 1) % 2 = 0 ∧ c * (2 * p - c + 1) % 2 = 0 ∧ c * (c + 1) ≤ 272 ∧ c * (2 * p - c + 1) ≤ 1000))) = true := by decide +kernel
  intro c p hc hp hle
  have := List.all_eq_true.mp (List.all_eq_true.mp h c (List.mem_range.mpr hc)) p (List.mem_range.mpr hp)
  simpa [hle] using this
section MD
variable {d : Nat} {V X H : Hp} {Q : AV → Hp → Prop}
theorem c_canHv {p : Nat} {c s : Int} (hp : p ≤ 16) (hc : -1 ≤ c ∧ c ≤ 17) (h1 : canP p c s → Q (vi 1) X) (h0 : ¬ canP p c s → Q (vi 0) X) : CC d HV_canBe [vi p, vi c, vi s] X Q := by
  by_cases c1 : c < 0
  · simp only [en_HV_canBe, e_HV_canBe_0, k_HV_canBe_0, e_HV_canBe_1, k_HV_canBe_1, e_HV_canBe_2, k_HV_canBe_2, rr, sh, Nat.reduceLT, Nat.reduceMul, Int.reduceToNat, Int.reduceGT, Int.reduceGE, Int.reduceNe, true_and, and_true, true_or, or_true, false_or, or_false, and_self, or_self, if_true, if_false, reduceIte, not_true_eq_false, not_false_eq_true, Int.reduceEq, Int.reduceNe, Int.reduceLT, Int.reduceLE, Int.reduceAdd, Int.reduceSub, Int.reduceMul, Int.reduceNeg, Nat.reduceAdd, Nat.reduceLeDiff, Nat.reduceEqDiff, ne_eq, List.length_cons, List.length_nil, Nat.reduceSub, c1]
    exact h0 fun z => by have := z.1.1; omega
  · by_cases c2 : (p : Int) < c
    · simp only [en_HV_canBe, e_HV_canBe_0, k_HV_canBe_0, e_HV_canBe_1, k_HV_canBe_1, e_HV_canBe_2, k_HV_canBe_2, rr, sh, Nat.reduceLT, Nat.reduceMul, Int.reduceToNat, Int.reduceGT, Int.reduceGE, Int.reduceNe, true_and, and_true, true_or, or_true, false_or, or_false, and_self, or_self, if_true, if_false, reduceIte, not_true_eq_false, not_false_eq_true, Int.reduceEq, Int.reduceNe, Int.reduceLT, Int.reduceLE, Int.reduceAdd, Int.reduceSub, Int.reduceMul, Int.reduceNeg, Nat.reduceAdd, Nat.reduceLeDiff, Nat.reduceEqDiff, ne_eq, List.length_cons, List.length_nil, Nat.reduceSub, c1, c2]
      exact h0 fun z => by have := z.1.2; omega
    · obtain ⟨m, rfl⟩ := Int.eq_ofNat_of_zero_le (Int.not_lt.mp c1)
      have hmp : m ≤ p := by omega
      obtain ⟨a1, a2, a3, a4⟩ := par_c m p (by omega) (by omega) hmp
      have e1 : (m : Int) * ((m : Int) + 1) = ((m * (m + 1) : Nat) : Int) := by push_cast; rfl
      have e2 : (m : Int) * (2 * (p : Int) - m + 1) = ((m * (2 * p - m + 1) : Nat) : Int) := by
        rw [Int.natCast_mul, show ((2 * p - m + 1 : Nat) : Int) = 2 * (p : Int) - m + 1 by omega]
      have w1 : w32 ((m : Int) + 1) = (m : Int) + 1 := w32_id (by clear e1 e2; omega) (by clear e1 e2; omega)
      have w2 : w32 (2 * (p : Int)) = 2 * p := w32_id (by clear e1 e2; omega) (by clear e1 e2; omega)
      have w3 : w32 (2 * (p : Int) - m) = 2 * p - m := w32_id (by clear e1 e2; omega) (by clear e1 e2; omega)
      have w4 : w32 (2 * (p : Int) - m + 1) = 2 * p - m + 1 := w32_id (by clear e1 e2; omega) (by clear e1 e2; omega)
      unfold canP at h1 h0
      rw [e1, e2] at h1 h0
      generalize m * (m + 1) = x at a1 a3 e1 h1 h0
      generalize m * (2 * p - m + 1) = y at a2 a4 e2 h1 h0
      have w5 : w32 ((w32 (x : Int)).tdiv 2) = ((x / 2 : Nat) : Int) := by
        rw [w32_id (x := (x : Int)) (by clear e1 e2 h1 h0 w1 w2 w3 w4; omega) (by clear e1 e2 h1 h0 w1 w2 w3 w4; omega), Int.tdiv_eq_ediv_of_nonneg (by omega), w32_id (by clear e1 e2 h1 h0 w1 w2 w3 w4; omega) (by clear e1 e2 h1 h0 w1 w2 w3 w4; omega)]; rfl
      have w6 : w32 ((w32 (y : Int)).tdiv 2) = ((y / 2 : Nat) : Int) := by
        rw [w32_id (x := (y : Int)) (by clear e1 e2 h1 h0 w1 w2 w3 w4 w5; omega) (by clear e1 e2 h1 h0 w1 w2 w3 w4 w5; omega), Int.tdiv_eq_ediv_of_nonneg (by omega), w32_id (by clear e1 e2 h1 h0 w1 w2 w3 w4 w5; omega) (by clear e1 e2 h1 h0 w1 w2 w3 w4 w5; omega)]; rfl
      by_cases c3 : s < ((x / 2 : Nat) : Int)
      · simp only [en_HV_canBe, e_HV_canBe_0, k_HV_canBe_0, e_HV_canBe_1, k_HV_canBe_1, e_HV_canBe_2, k_HV_canBe_2, rr, sh, Nat.reduceLT, Nat.reduceMul, Int.reduceToNat, Int.reduceGT, Int.reduceGE, Int.reduceNe, true_and, and_true, true_or, or_true, false_or, or_false, and_self, or_self, if_true, if_false, reduceIte, not_true_eq_false, not_false_eq_true, Int.reduceEq, Int.reduceNe, Int.reduceLT, Int.reduceLE, Int.reduceAdd, Int.reduceSub, Int.reduceMul, Int.reduceNeg, Nat.reduceAdd, Nat.reduceLeDiff, Nat.reduceEqDiff, ne_eq, List.length_cons, List.length_nil, Nat.reduceSub, c1, c2, w1, e1, w5, c3]
        exact h0 fun z => by have := z.2.1; clear e1 e2 h1 h0 w1 w2 w3 w4 w5 w6; omega
      · by_cases c4 : ((y / 2 : Nat) : Int) < s
        · simp only [en_HV_canBe, e_HV_canBe_0, k_HV_canBe_0, e_HV_canBe_1, k_HV_canBe_1, e_HV_canBe_2, k_HV_canBe_2, rr, sh, Nat.reduceLT, Nat.reduceMul, Int.reduceToNat, Int.reduceGT, Int.reduceGE, Int.reduceNe, true_and, and_true, true_or, or_true, false_or, or_false, and_self, or_self, if_true, if_false, reduceIte, not_true_eq_false, not_false_eq_true, Int.reduceEq, Int.reduceNe, Int.reduceLT, Int.reduceLE, Int.reduceAdd, Int.reduceSub, Int.reduceMul, Int.reduceNeg, Nat.reduceAdd, Nat.reduceLeDiff, Nat.reduceEqDiff, ne_eq, List.length_cons, List.length_nil, Nat.reduceSub, c1, c2, w1, e1, w5, c3, w2, w3, w4, e2, w6, c4]
          exact h0 fun z => by have := z.2.2; clear e1 e2 h1 h0 w1 w2 w3 w4 w5 w6; omega
        · simp only [en_HV_canBe, e_HV_canBe_0, k_HV_canBe_0, e_HV_canBe_1, k_HV_canBe_1, e_HV_canBe_2, k_HV_canBe_2, rr, sh, Nat.reduceLT, Nat.reduceMul, Int.reduceToNat, Int.reduceGT, Int.reduceGE, Int.reduceNe, true_and, and_true, true_or, or_true, false_or, or_false, and_self, or_self, if_true, if_false, reduceIte, not_true_eq_false, not_false_eq_true, Int.reduceEq, Int.reduceNe, Int.reduceLT, Int.reduceLE, Int.reduceAdd, Int.reduceSub, Int.reduceMul, Int.reduceNeg, Nat.reduceAdd, Nat.reduceLeDiff, Nat.reduceEqDiff, ne_eq, List.length_cons, List.length_nil, Nat.reduceSub, c1, c2, w1, e1, w5, c3, w2, w3, w4, e2, w6, c4]
          refine h1 ⟨⟨?_, ?_⟩, ?_, ?_⟩ <;> (clear e1 e2 h1 h0 w1 w2 w3 w4 w5 w6; omega)
theorem can_rng {p : Nat} {c s : Int} (hp : p ≤ 16) (h : canP p c s) : 0 ≤ c ∧ c ≤ 16 ∧ 0 ≤ s ∧ s ≤ 500 := by
  obtain ⟨⟨h1, h2⟩, h3, h4⟩ := h
  obtain ⟨m, rfl⟩ := Int.eq_ofNat_of_zero_le h1
  have hmp : m ≤ p := by omega
  obtain ⟨a1, a2, a3, a4⟩ := par_c m p (by omega) (by omega) hmp
  have e1 : (m : Int) * ((m : Int) + 1) = ((m * (m + 1) : Nat) : Int) := by push_cast; rfl
  have e2 : (m : Int) * (2 * (p : Int) - m + 1) = ((m * (2 * p - m + 1) : Nat) : Int) := by
    rw [Int.natCast_mul, show ((2 * p - m + 1 : Nat) : Int) = 2 * (p : Int) - m + 1 by omega]
  rw [e1] at h3
  rw [e2] at h4
  clear e1 e2
  omega
theorem SL_lt {p : Nat} {c s : Int} {b : Nat} (h : b ∈ SL p c s) : b < 2 ^ p := by
  rw [SL_filter] at h
  exact List.mem_range.mp (List.mem_filter.mp h).1
set_option maxRecDepth 20000 in
theorem c_choose : ∀ (p : Nat) {d : Nat} {X : Hp} {Q : AV → Hp → Prop} {c s : Int} {bits t : Nat}, p ≤ 16 → canP p c s → X 66 3 = t → t < 2147483648 → bits < 65536 → (∀ b H', (SL p c s)[t]? = some b → Fx s663 X H' → Q (vi ((bits ||| b : Nat) : Int)) H') → (∀ H', (SL p c s)[t]? = none → Fx s663 X H' → H' 66 3 = (t : Int) - (SL p c s).length → Q (vi (-1)) H') → CC (d + p + 1) HV_choose [va 66, vi p, vi c, vi s, vi bits] X Q
  | 0, d, X, Q, c, s, bits, t, hp, hc, ht, ht2, hb, h1, h2 => by
    have e : SL 0 c s = [0] := by
      unfold SL
      have := hc
      unfold canP at this
      have hc0 : c = 0 := by omega
      rw [hc0] at this
      rw [if_pos ⟨hc0, by omega⟩]
    rw [e] at h1 h2
    have w1 : w32 ((t : Int) - 1) = (t : Int) - 1 := w32_id (by omega) (by omega)
    by_cases c0 : t = 0
    · subst c0
      have c1 : ¬ 0 ≤ ((0 : Nat) : Int) - 1 := by decide
      simp only [en_HV_choose, e_HV_choose_0, k_HV_choose_0, e_HV_choose_1, k_HV_choose_1, e_HV_choose_2, k_HV_choose_2, e_HV_choose_3, k_HV_choose_3, e_HV_choose_4, k_HV_choose_4, e_HV_choose_5, k_HV_choose_5, rr, sh, Nat.reduceLT, Nat.reduceMul, Int.reduceToNat, Int.reduceGT, Int.reduceGE, Int.reduceNe, true_and, and_true, true_or, or_true, false_or, or_false, and_self, or_self, if_true, if_false, reduceIte, not_true_eq_false, not_false_eq_true, Int.reduceEq, Int.reduceNe, Int.reduceLT, Int.reduceLE, Int.reduceAdd, Int.reduceSub, Int.reduceMul, Int.reduceNeg, Nat.reduceAdd, Nat.reduceLeDiff, Nat.reduceEqDiff, ne_eq, List.length_cons, List.length_nil, Nat.reduceSub, ht, w1, hs_same, c1]
      have := h1 0 _ rfl (Fx.rf.hs (c := 66) (j := 3) (v := ((0 : Nat) : Int) - 1) rfl)
      rw [Nat.or_zero] at this
      exact this
    · have c1 : 0 ≤ (t : Int) - 1 := by omega
      simp only [en_HV_choose, e_HV_choose_0, k_HV_choose_0, e_HV_choose_1, k_HV_choose_1, e_HV_choose_2, k_HV_choose_2, e_HV_choose_3, k_HV_choose_3, e_HV_choose_4, k_HV_choose_4, e_HV_choose_5, k_HV_choose_5, rr, sh, Nat.reduceLT, Nat.reduceMul, Int.reduceToNat, Int.reduceGT, Int.reduceGE, Int.reduceNe, true_and, and_true, true_or, or_true, false_or, or_false, and_self, or_self, if_true, if_false, reduceIte, not_true_eq_false, not_false_eq_true, Int.reduceEq, Int.reduceNe, Int.reduceLT, Int.reduceLE, Int.reduceAdd, Int.reduceSub, Int.reduceMul, Int.reduceNeg, Nat.reduceAdd, Nat.reduceLeDiff, Nat.reduceEqDiff, ne_eq, List.length_cons, List.length_nil, Nat.reduceSub, ht, w1, hs_same, c1]
      refine h2 _ ?_ (Fx.rf.hs (c := 66) (j := 3) rfl) hs_same
      exact List.getElem?_eq_none (by show 1 ≤ t; omega)
  | p + 1, d, X, Q, c, s, bits, t, hp, hc, ht, ht2, hb, h1, h2 => by
    have hr := can_rng hp hc
    have wp : w32 (((p + 1 : Nat) : Int) - 1) = p := by rw [w32_id (by omega) (by omega)]; omega
    have wc : w32 (c - 1) = c - 1 := w32_id (by omega) (by omega)
    have ws : w32 (s - ((p + 1 : Nat) : Int)) = s - ((p : Int) + 1) := by rw [w32_id (by omega) (by omega)]; omega
    have hp16 : p < 16 := by omega
    have hpw : 2 ^ p ≤ 32768 := Nat.pow_le_pow_right (n := 2) (j := 15) (by decide) (by omega)
    have wb : b_shl 1 (p : Int) = ((1 * 2 ^ p : Nat) : Int) := b_shl_nat (a := 1) (by omega) (by omega)
    have wo : b_or (bits : Int) ((1 * 2 ^ p : Nat) : Int) = ((bits ||| 2 ^ p : Nat) : Int) := by rw [b_or_nat (by omega) (by omega), Nat.one_mul]
    have hb' : bits ||| 2 ^ p < 65536 := Nat.or_lt_two_pow (n := 16) hb (by omega)
    have c0 : 0 < ((p + 1 : Nat) : Int) := by omega
    have eL : SL (p + 1) c s = SL p c s ++ (SL p (c - 1) (s - ((p : Int) + 1))).map (fun b => 2 ^ p + b) := rfl
    have tail : ∀ (t2 : Nat) (X2 : Hp) (x : AV), Fx s663 X X2 → X2 66 3 = t2 → t2 < 2147483648 → (∀ b H', (SL p (c - 1) (s - ((p : Int) + 1)))[t2]? = some b → Fx s663 X H' → Q (vi ((bits ||| (2 ^ p + b) : Nat) : Int)) H') → (∀ H', (SL p (c - 1) (s - ((p : Int) + 1)))[t2]? = none → Fx s663 X H' → H' 66 3 = (t2 : Int) - (SL p (c - 1) (s - ((p : Int) + 1))).length → Q (vi (-1)) H') → R (d + (p + 1) + 1) HV_choose (blk HV_choose 4) [va 66, vi ((p + 1 : Nat) : Int), vi c, vi s, vi bits, x] [] X2 Q := by
      intro t2 X2 x hX2 ht2' ht22 k1 k2
      simp only [e_HV_choose_4, k_HV_choose_4, rr, sh, Nat.reduceLT, Nat.reduceMul, Int.reduceToNat, Int.reduceGT, Int.reduceGE, Int.reduceNe, true_and, and_true, true_or, or_true, false_or, or_false, and_self, or_self, if_true, if_false, reduceIte, not_true_eq_false, not_false_eq_true, Int.reduceEq, Int.reduceNe, Int.reduceLT, Int.reduceLE, Int.reduceAdd, Int.reduceSub, Int.reduceMul, Int.reduceNeg, Nat.reduceAdd, Nat.reduceLeDiff, Nat.reduceEqDiff, ne_eq, List.length_cons, List.length_nil, Nat.reduceSub, wp, wc, ws]
      refine c_canHv (by omega) (by omega) (fun hcan => ?_) (fun hcan => ?_)
      · simp only [e_HV_choose_5, k_HV_choose_5, rr, sh, Nat.reduceLT, Nat.reduceMul, Int.reduceToNat, Int.reduceGT, Int.reduceGE, Int.reduceNe, true_and, and_true, true_or, or_true, false_or, or_false, and_self, or_self, if_true, if_false, reduceIte, not_true_eq_false, not_false_eq_true, Int.reduceEq, Int.reduceNe, Int.reduceLT, Int.reduceLE, Int.reduceAdd, Int.reduceSub, Int.reduceMul, Int.reduceNeg, Nat.reduceAdd, Nat.reduceLeDiff, Nat.reduceEqDiff, ne_eq, List.length_cons, List.length_nil, Nat.reduceSub, wp, wc, ws, wb, wo]
        refine c_choose p (d := d) (by omega) hcan ht2' ht22 hb' (fun b H' hs1 hF => ?_) (fun H' hs1 hF h66 => ?_)
        · have hlt := SL_lt (List.mem_of_getElem? hs1)
          have := k1 b H' hs1 (hX2.tr hF)
          have e := Nat.two_pow_add_eq_or_of_lt (i := p) hlt 1
          rw [Nat.mul_one] at e
          rw [e, ← Nat.or_assoc] at this
          simp only [rr, sh, Nat.reduceLT, Nat.reduceMul, Int.reduceToNat, Int.reduceGT, Int.reduceGE, Int.reduceNe, true_and, and_true, true_or, or_true, false_or, or_false, and_self, or_self, if_true, if_false, reduceIte, not_true_eq_false, not_false_eq_true, Int.reduceEq, Int.reduceNe, Int.reduceLT, Int.reduceLE, Int.reduceAdd, Int.reduceSub, Int.reduceMul, Int.reduceNeg, Nat.reduceAdd, Nat.reduceLeDiff, Nat.reduceEqDiff, ne_eq, List.length_cons, List.length_nil, Nat.reduceSub]
          exact this
        · simp only [rr, sh, Nat.reduceLT, Nat.reduceMul, Int.reduceToNat, Int.reduceGT, Int.reduceGE, Int.reduceNe, true_and, and_true, true_or, or_true, false_or, or_false, and_self, or_self, if_true, if_false, reduceIte, not_true_eq_false, not_false_eq_true, Int.reduceEq, Int.reduceNe, Int.reduceLT, Int.reduceLE, Int.reduceAdd, Int.reduceSub, Int.reduceMul, Int.reduceNeg, Nat.reduceAdd, Nat.reduceLeDiff, Nat.reduceEqDiff, ne_eq, List.length_cons, List.length_nil, Nat.reduceSub]
          exact k2 H' hs1 (hX2.tr hF) h66
      · simp only [e_HV_choose_5, k_HV_choose_5, rr, sh, Nat.reduceLT, Nat.reduceMul, Int.reduceToNat, Int.reduceGT, Int.reduceGE, Int.reduceNe, true_and, and_true, true_or, or_true, false_or, or_false, and_self, or_self, if_true, if_false, reduceIte, not_true_eq_false, not_false_eq_true, Int.reduceEq, Int.reduceNe, Int.reduceLT, Int.reduceLE, Int.reduceAdd, Int.reduceSub, Int.reduceMul, Int.reduceNeg, Nat.reduceAdd, Nat.reduceLeDiff, Nat.reduceEqDiff, ne_eq, List.length_cons, List.length_nil, Nat.reduceSub]
        have e := SL_no hcan
        rw [e] at k1 k2
        refine k2 X2 rfl hX2 ?_
        rw [ht2']; simp
    have eB : ∀ t2 : Nat, t = (SL p c s).length + t2 → (SL (p + 1) c s)[t]? = ((SL p (c - 1) (s - ((p : Int) + 1)))[t2]?).map (fun b => 2 ^ p + b) := fun t2 e => by
      rw [eL, e, List.getElem?_append_right (Nat.le_add_right _ _), Nat.add_sub_cancel_left, List.getElem?_map]
    have tl2 : ∀ (t2 : Nat) (X2 : Hp) (x : AV), t = (SL p c s).length + t2 → Fx s663 X X2 → X2 66 3 = t2 → R (d + (p + 1) + 1) HV_choose (blk HV_choose 4) [va 66, vi ((p + 1 : Nat) : Int), vi c, vi s, vi bits, x] [] X2 Q := fun t2 X2 x e hX2 h66 => by
      refine tail t2 X2 x hX2 h66 (by clear tail; omega) (fun b H' q1 q2 => h1 _ H' (by rw [eB t2 e, q1]; rfl) q2) (fun H' q1 q2 q3 => h2 H' (by rw [eB t2 e, q1]; rfl) q2 ?_)
      rw [q3, eL, List.length_append, List.length_map, e]
      clear tail q3 q2 h1 h2
      omega
    simp only [en_HV_choose, e_HV_choose_0, k_HV_choose_0, e_HV_choose_3, k_HV_choose_3, rr, sh, Nat.reduceLT, Nat.reduceMul, Int.reduceToNat, Int.reduceGT, Int.reduceGE, Int.reduceNe, true_and, and_true, true_or, or_true, false_or, or_false, and_self, or_self, if_true, if_false, reduceIte, not_true_eq_false, not_false_eq_true, Int.reduceEq, Int.reduceNe, Int.reduceLT, Int.reduceLE, Int.reduceAdd, Int.reduceSub, Int.reduceMul, Int.reduceNeg, Nat.reduceAdd, Nat.reduceLeDiff, Nat.reduceEqDiff, ne_eq, List.length_cons, List.length_nil, Nat.reduceSub, c0, wp]
    refine c_canHv (by omega) (by omega) (fun hcan => ?_) (fun hcan => ?_)
    · simp only [rr, sh, Nat.reduceLT, Nat.reduceMul, Int.reduceToNat, Int.reduceGT, Int.reduceGE, Int.reduceNe, true_and, and_true, true_or, or_true, false_or, or_false, and_self, or_self, if_true, if_false, reduceIte, not_true_eq_false, not_false_eq_true, Int.reduceEq, Int.reduceNe, Int.reduceLT, Int.reduceLE, Int.reduceAdd, Int.reduceSub, Int.reduceMul, Int.reduceNeg, Nat.reduceAdd, Nat.reduceLeDiff, Nat.reduceEqDiff, ne_eq, List.length_cons, List.length_nil, Nat.reduceSub, wp]
      refine c_choose p (d := d) (by omega) hcan ht ht2 hb (fun b H' hs1 hF => ?_) (fun H' hs1 hF h66 => ?_)
      · have n1 : ¬ ((bits ||| b : Nat) : Int) = -1 := by omega
        simp only [rr, sh, Nat.reduceLT, Nat.reduceMul, Int.reduceToNat, Int.reduceGT, Int.reduceGE, Int.reduceNe, true_and, and_true, true_or, or_true, false_or, or_false, and_self, or_self, if_true, if_false, reduceIte, not_true_eq_false, not_false_eq_true, Int.reduceEq, Int.reduceNe, Int.reduceLT, Int.reduceLE, Int.reduceAdd, Int.reduceSub, Int.reduceMul, Int.reduceNeg, Nat.reduceAdd, Nat.reduceLeDiff, Nat.reduceEqDiff, ne_eq, List.length_cons, List.length_nil, Nat.reduceSub, n1]
        refine h1 b H' ?_ hF
        rw [eL, List.getElem?_append_left (by
          obtain ⟨hl, -⟩ := List.getElem?_eq_some_iff.mp hs1
          exact hl)]
        exact hs1
      · simp only [rr, sh, Nat.reduceLT, Nat.reduceMul, Int.reduceToNat, Int.reduceGT, Int.reduceGE, Int.reduceNe, true_and, and_true, true_or, or_true, false_or, or_false, and_self, or_self, if_true, if_false, reduceIte, not_true_eq_false, not_false_eq_true, Int.reduceEq, Int.reduceNe, Int.reduceLT, Int.reduceLE, Int.reduceAdd, Int.reduceSub, Int.reduceMul, Int.reduceNeg, Nat.reduceAdd, Nat.reduceLeDiff, Nat.reduceEqDiff, ne_eq, List.length_cons, List.length_nil, Nat.reduceSub]
        have hl : (SL p c s).length ≤ t := List.getElem?_eq_none_iff.mp hs1
        exact tl2 (t - (SL p c s).length) H' _ (by clear tail tl2; omega) hF (by rw [h66]; clear tail tl2; omega)
    · simp only [rr, sh, Nat.reduceLT, Nat.reduceMul, Int.reduceToNat, Int.reduceGT, Int.reduceGE, Int.reduceNe, true_and, and_true, true_or, or_true, false_or, or_false, and_self, or_self, if_true, if_false, reduceIte, not_true_eq_false, not_false_eq_true, Int.reduceEq, Int.reduceNe, Int.reduceLT, Int.reduceLE, Int.reduceAdd, Int.reduceSub, Int.reduceMul, Int.reduceNeg, Nat.reduceAdd, Nat.reduceLeDiff, Nat.reduceEqDiff, ne_eq, List.length_cons, List.length_nil, Nat.reduceSub]
      have e := SL_no hcan
      exact tl2 t X _ (by rw [e]; simp) Fx.rf ht
end MD
