/-! the class's swings: off, good, sides, lawful -/
theorem and_zero_iff {b f n : Nat} (hf : f < 2 ^ n) : (b &&& f = 0) ↔ ∀ k, k < n → f.testBit k = true → b.testBit k = false := by
  constructor
  · intro h k _ hk
    have := congrArg (fun x => Nat.testBit x k) h
    simp only [Nat.testBit_and, hk, Bool.and_true, Nat.zero_testBit] at this
    exact this
  · intro h
    apply Nat.eq_of_testBit_eq
    intro i
    rw [Nat.testBit_and, Nat.zero_testBit]
    by_cases hi : i < n
    · by_cases hk : f.testBit i = true
      · rw [h i hi hk]; rfl
      · simp only [Bool.not_eq_true] at hk; rw [hk]; simp
    · rw [Nat.testBit_lt_two_pow (Nat.lt_of_lt_of_le hf (Nat.pow_le_pow_right (by decide) (by omega)))]; simp
theorem and_self_iff' {b f n : Nat} (hf : f < 2 ^ n) : (b &&& f = f) ↔ ∀ k, k < n → f.testBit k = true → b.testBit k = true := by
  constructor
  · intro h k _ hk
    have := congrArg (fun x => Nat.testBit x k) h
    simp only [Nat.testBit_and, hk, Bool.and_true] at this
    exact this
  · intro h
    apply Nat.eq_of_testBit_eq
    intro i
    rw [Nat.testBit_and]
    by_cases hi : i < n
    · by_cases hk : f.testBit i = true
      · rw [h i hi hk, hk]; rfl
      · simp only [Bool.not_eq_true] at hk; rw [hk]; simp
    · rw [Nat.testBit_lt_two_pow (Nat.lt_of_lt_of_le hf (Nat.pow_le_pow_right (by decide) (by omega)))]; simp
theorem mod_or {s k : Nat} : s % 2 ^ k ||| (if s.testBit k = true then 1 else 0) * 2 ^ k = s % 2 ^ (k + 1) := by
  apply Nat.eq_of_testBit_eq
  intro i
  rw [Nat.testBit_or, Nat.testBit_mod_two_pow, Nat.testBit_mod_two_pow]
  by_cases hb : s.testBit k = true
  · rw [if_pos hb, Nat.one_mul, Nat.testBit_two_pow]
    by_cases hi : k = i
    · subst hi; simp [hb]
    · have : decide (i < k + 1) = decide (i < k) := decide_eq_decide.mpr (by omega)
      simp [hi, this]
  · rw [if_neg hb, Nat.zero_mul, Nat.zero_testBit, Bool.or_false]
    by_cases hi : k = i
    · subst hi; simp only [Bool.not_eq_true] at hb; simp [hb]
    · have : decide (i < k + 1) = decide (i < k) := decide_eq_decide.mpr (by omega)
      rw [this]
section CR
variable {d : Nat} {V H : Hp} {Q : AV → Hp → Prop}
theorem want_ne (hI : Inq V) {k : Nat} (hk : k < 4) : (V (V 4 0 + 7) k = -1000000000000000) = ¬ wnt V k = true := by
  have h := hI.plan.want k hk
  have hb := hI.boat.want k hk
  rw [h]
  unfold wnt
  by_cases h1 : V 100 (4 + k) = 1
  · have hb := hb h1
    rw [if_pos h1]; simp [h1]; omega
  · rw [if_neg h1]; simp [h1]
theorem want_eq (hI : Inq V) {k : Nat} (hk : k < 4) (h : wnt V k = true) : V (V 4 0 + 7) k = V 101 (4 + k) := by
  rw [hI.plan.want k hk, if_pos (of_decide_eq_true h)]
set_option maxRecDepth 20000 in
set_option maxHeartbeats 4000000 in
theorem q_offAt (hI : Inq V) (hH : Vw V H) {t : Int} (ht : 0 ≤ t) (ht2 : t ≤ 100000) : CC (d + 4) CW_offAt [va 4, vi t] H Q = Q (vl (offV V (sdV V) t)) H := by
  refine CC_dt fun Q hQ => ?_
  have f := hH.f hI.ptr; have g := pl_f hH hI.pp hI.ptr; simp only [en_CW_offAt, e_CW_offAt_0, k_CW_offAt_0, rr, sh, Nat.reduceLT, Nat.reduceMul, Int.reduceToNat, Int.reduceGT, Int.reduceGE, Int.reduceNe, true_and, and_true, true_or, or_true, false_or, or_false, and_self, or_self, if_true, if_false, reduceIte, not_true_eq_false, not_false_eq_true, Int.reduceEq, Int.reduceNe, Int.reduceLT, Int.reduceLE, Int.reduceAdd, Int.reduceSub, Int.reduceMul, Int.reduceNeg, Nat.reduceAdd, Nat.reduceLeDiff, Nat.reduceEqDiff, ne_eq, List.length_cons, List.length_nil, Nat.reduceSub, ite10_0, ite10_1, ite10_01, Classical.not_not, f, g] <;> clear f g
  (repeat (refine And.intro (by omega) ?_))
  refine up_nat (P := fun k => R (d + 4) CW_offAt (blk CW_offAt 1) [va 4, vi t, vl (w64 (sumI (fun q => if wnt V q = true then gapA V q (sdV V) t else 0) k)), vu, vi k] [] H Q) ?_ ?_ 0 (Nat.zero_le 4)
  · rw [e_CW_offAt_1]
    have f := hH.f hI.ptr; have g := pl_f hH hI.pp hI.ptr; simp only [k_CW_offAt_1, en_CW_offAt, e_CW_offAt_0, k_CW_offAt_0, e_CW_offAt_2, k_CW_offAt_2, e_CW_offAt_3, k_CW_offAt_3, rr, sh, Nat.reduceLT, Nat.reduceMul, Int.reduceToNat, Int.reduceGT, Int.reduceGE, Int.reduceNe, true_and, and_true, true_or, or_true, false_or, or_false, and_self, or_self, if_true, if_false, reduceIte, not_true_eq_false, not_false_eq_true, Int.reduceEq, Int.reduceNe, Int.reduceLT, Int.reduceLE, Int.reduceAdd, Int.reduceSub, Int.reduceMul, Int.reduceNeg, Nat.reduceAdd, Nat.reduceLeDiff, Nat.reduceEqDiff, ne_eq, List.length_cons, List.length_nil, Nat.reduceSub, ite10_0, ite10_1, ite10_01, Classical.not_not, f, g, Int.le_refl] <;> clear f g
    exact hQ
  · intro k hk ih
    have c1 : ¬ (4 : Int) ≤ k := by omega
    have w0 := want_ne hI hk
    rw [e_CW_offAt_1]
    have f := hH.f hI.ptr; have g := pl_f hH hI.pp hI.ptr; simp only [k_CW_offAt_1, en_CW_offAt, e_CW_offAt_0, k_CW_offAt_0, e_CW_offAt_2, k_CW_offAt_2, e_CW_offAt_3, k_CW_offAt_3, rr, sh, Nat.reduceLT, Nat.reduceMul, Int.reduceToNat, Int.reduceGT, Int.reduceGE, Int.reduceNe, true_and, and_true, true_or, or_true, false_or, or_false, and_self, or_self, if_true, if_false, reduceIte, not_true_eq_false, not_false_eq_true, Int.reduceEq, Int.reduceNe, Int.reduceLT, Int.reduceLE, Int.reduceAdd, Int.reduceSub, Int.reduceMul, Int.reduceNeg, Nat.reduceAdd, Nat.reduceLeDiff, Nat.reduceEqDiff, ne_eq, List.length_cons, List.length_nil, Nat.reduceSub, ite10_0, ite10_1, ite10_01, Classical.not_not, f, g, c1, c3_eq, w0, q_swingAt hI hH hk ht ht2, q_absL, w32_s (show k < 2147483647 by omega)] <;> clear f g w0
    (repeat (refine And.intro (by omega) ?_))
    by_cases h : wnt V k = true
    · rw [if_neg (fun q => q h), want_eq hI hk h]
      (repeat (refine And.intro (by omega) ?_))
      refine R_cg ih (congrArg (fun z => [va 4, vi t, vl z, vu, vi ((k + 1 : Nat) : Int)]) ?_) rfl
      show w64 (_ + gapA V k (sdV V) t) = w64 (_ + (if wnt V k = true then gapA V k (sdV V) t else 0))
      rw [if_pos h, w64_al]
    · rw [if_pos h]
      (repeat (refine And.intro (by omega) ?_))
      refine R_cg ih (congrArg (fun z => [va 4, vi t, vl z, vu, vi ((k + 1 : Nat) : Int)]) ?_) rfl
      show _ = w64 (_ + (if wnt V k = true then gapA V k (sdV V) t else 0))
      rw [if_neg h, Int.add_zero]
set_option maxRecDepth 20000 in
set_option maxHeartbeats 4000000 in
theorem q_isGoodAt (hI : Inq V) (hH : Vw V H) {t : Int} (ht : 0 ≤ t) (ht2 : t ≤ 100000) : CC (d + 4) CW_isGoodAt [va 4, vi t] H Q = Q (vi (if goodB V (sdV V) t = true then 1 else 0)) H := by
  refine CC_dt fun Q hQ => ?_
  have hne := hI.plan.near
  have f := hH.f hI.ptr; have g := pl_f hH hI.pp hI.ptr; simp only [en_CW_isGoodAt, e_CW_isGoodAt_0, k_CW_isGoodAt_0, rr, sh, Nat.reduceLT, Nat.reduceMul, Int.reduceToNat, Int.reduceGT, Int.reduceGE, Int.reduceNe, true_and, and_true, true_or, or_true, false_or, or_false, and_self, or_self, if_true, if_false, reduceIte, not_true_eq_false, not_false_eq_true, Int.reduceEq, Int.reduceNe, Int.reduceLT, Int.reduceLE, Int.reduceAdd, Int.reduceSub, Int.reduceMul, Int.reduceNeg, Nat.reduceAdd, Nat.reduceLeDiff, Nat.reduceEqDiff, ne_eq, List.length_cons, List.length_nil, Nat.reduceSub, ite10_0, ite10_1, ite10_01, Classical.not_not, f, g] <;> clear f g
  (repeat (refine And.intro (by omega) ?_))
  refine up_nat (P := fun k => (∀ q : Nat, q < k → wnt V q = true → gapA V q (sdV V) t ≤ V 99 1) → R (d + 4) CW_isGoodAt (blk CW_isGoodAt 1) [va 4, vi t, vi k] [] H Q) ?_ ?_ 0 (Nat.zero_le 4) (fun q hq => absurd hq (Nat.not_lt_zero q))
  · intro hg
    rw [if_pos (show goodB V (sdV V) t = true from decide_eq_true hg)] at hQ
    rw [e_CW_isGoodAt_1]
    have f := hH.f hI.ptr; have g := pl_f hH hI.pp hI.ptr; simp only [k_CW_isGoodAt_1, en_CW_isGoodAt, e_CW_isGoodAt_0, k_CW_isGoodAt_0, e_CW_isGoodAt_2, k_CW_isGoodAt_2, e_CW_isGoodAt_3, k_CW_isGoodAt_3, rr, sh, Nat.reduceLT, Nat.reduceMul, Int.reduceToNat, Int.reduceGT, Int.reduceGE, Int.reduceNe, true_and, and_true, true_or, or_true, false_or, or_false, and_self, or_self, if_true, if_false, reduceIte, not_true_eq_false, not_false_eq_true, Int.reduceEq, Int.reduceNe, Int.reduceLT, Int.reduceLE, Int.reduceAdd, Int.reduceSub, Int.reduceMul, Int.reduceNeg, Nat.reduceAdd, Nat.reduceLeDiff, Nat.reduceEqDiff, ne_eq, List.length_cons, List.length_nil, Nat.reduceSub, ite10_0, ite10_1, ite10_01, Classical.not_not, f, g, Int.le_refl] <;> clear f g
    exact hQ
  · intro k hk ih hg
    have c1 : ¬ (4 : Int) ≤ k := by omega
    have w0 := want_ne hI hk
    rw [e_CW_isGoodAt_1]
    have f := hH.f hI.ptr; have g := pl_f hH hI.pp hI.ptr; simp only [k_CW_isGoodAt_1, en_CW_isGoodAt, e_CW_isGoodAt_0, k_CW_isGoodAt_0, e_CW_isGoodAt_2, k_CW_isGoodAt_2, e_CW_isGoodAt_3, k_CW_isGoodAt_3, rr, sh, Nat.reduceLT, Nat.reduceMul, Int.reduceToNat, Int.reduceGT, Int.reduceGE, Int.reduceNe, true_and, and_true, true_or, or_true, false_or, or_false, and_self, or_self, if_true, if_false, reduceIte, not_true_eq_false, not_false_eq_true, Int.reduceEq, Int.reduceNe, Int.reduceLT, Int.reduceLE, Int.reduceAdd, Int.reduceSub, Int.reduceMul, Int.reduceNeg, Nat.reduceAdd, Nat.reduceLeDiff, Nat.reduceEqDiff, ne_eq, List.length_cons, List.length_nil, Nat.reduceSub, ite10_0, ite10_1, ite10_01, Classical.not_not, f, g, c1, c3_eq, c3_le, w0, hne, q_swingAt hI hH hk ht ht2, q_absL, w32_s (show k < 2147483647 by omega)] <;> clear f g w0
    (repeat (refine And.intro (by omega) ?_))
    by_cases h : wnt V k = true
    · rw [if_neg (fun q => q h), want_eq hI hk h]
      (repeat (refine And.intro (by omega) ?_))
      show if gapA V k (sdV V) t ≤ V 99 1 then _ else _
      by_cases hc : gapA V k (sdV V) t ≤ V 99 1
      · rw [if_pos hc]
        exact ih (fun q hq => by rcases Nat.lt_or_ge q k with h1 | h1; exact hg q h1; rw [show q = k by omega]; exact fun _ => hc)
      · rw [if_neg hc]
        rw [if_neg (show ¬ goodB V (sdV V) t = true from fun q => hc (of_decide_eq_true q k hk h))] at hQ
        exact hQ
    · rw [if_pos h]
      (repeat (refine And.intro (by omega) ?_))
      exact ih (fun q hq => by rcases Nat.lt_or_ge q k with h1 | h1; exact hg q h1; rw [show q = k by omega]; exact fun h1 => absurd h1 h)
theorem sdV_lt (hM : Inm V) : sdV V < 4096 := bits_lt hM.boat.s.2 hM.crew.sides.2
set_option maxRecDepth 20000 in
set_option maxHeartbeats 4000000 in
theorem q_sides (hI : Inq V) (hH : Vw V H) : CC d CW_sides [va 4] H Q = Q (vi (sdV V)) H := by
  refine CC_dt fun Q hQ => ?_
  have hn := hI.boat.s
  have h1 := hI.plan.seats
  have hs := hI.crew.sides
  have f := hH.f hI.ptr; have g := pl_f hH hI.pp hI.ptr; simp only [en_CW_sides, e_CW_sides_0, k_CW_sides_0, rr, sh, Nat.reduceLT, Nat.reduceMul, Int.reduceToNat, Int.reduceGT, Int.reduceGE, Int.reduceNe, true_and, and_true, true_or, or_true, false_or, or_false, and_self, or_self, if_true, if_false, reduceIte, not_true_eq_false, not_false_eq_true, Int.reduceEq, Int.reduceNe, Int.reduceLT, Int.reduceLE, Int.reduceAdd, Int.reduceSub, Int.reduceMul, Int.reduceNeg, Nat.reduceAdd, Nat.reduceLeDiff, Nat.reduceEqDiff, ne_eq, List.length_cons, List.length_nil, Nat.reduceSub, ite10_0, ite10_1, ite10_01, Classical.not_not, f, g] <;> clear f g
  (repeat (refine And.intro (by omega) ?_))
  refine R_cg (up_nat (P := fun k => R d CW_sides (blk CW_sides 1) [va 4, vi ((sdV V % 2 ^ k : Nat) : Int), vi k] [] H Q) ?_ ?_ 0 (Nat.zero_le (nS V))) (by rw [Nat.pow_zero, Nat.mod_one]; rfl) rfl
  · rw [e_CW_sides_1, Nat.mod_eq_of_lt hs.2]
    have f := hH.f hI.ptr; have g := pl_f hH hI.pp hI.ptr; simp only [k_CW_sides_1, en_CW_sides, e_CW_sides_0, k_CW_sides_0, e_CW_sides_2, k_CW_sides_2, rr, sh, Nat.reduceLT, Nat.reduceMul, Int.reduceToNat, Int.reduceGT, Int.reduceGE, Int.reduceNe, true_and, and_true, true_or, or_true, false_or, or_false, and_self, or_self, if_true, if_false, reduceIte, not_true_eq_false, not_false_eq_true, Int.reduceEq, Int.reduceNe, Int.reduceLT, Int.reduceLE, Int.reduceAdd, Int.reduceSub, Int.reduceMul, Int.reduceNeg, Nat.reduceAdd, Nat.reduceLeDiff, Nat.reduceEqDiff, ne_eq, List.length_cons, List.length_nil, Nat.reduceSub, ite10_0, ite10_1, ite10_01, Classical.not_not, f, g, h1, Int.le_refl] <;> clear f g
    exact hQ
  · intro k hk ih
    have c1 : ¬ (nS V : Int) ≤ k := by omega
    have e1 := hI.cc.right k hk
    have hm : sdV V % 2 ^ k < 4096 := Nat.lt_of_le_of_lt (Nat.mod_le _ _) (sdV_lt hI.m)
    have hpk : (2 : Nat) ^ k ≤ 2 ^ 12 := Nat.pow_le_pow_right (by decide) (by omega)
    have w2 : b_shl (if (sdV V).testBit k = true then 1 else 0) k = (((if (sdV V).testBit k = true then 1 else 0) * 2 ^ k : Nat) : Int) := by
      have := b_shl_nat (a := if (sdV V).testBit k = true then 1 else 0) (k := k) (by omega) (by split <;> omega)
      rw [← this]
      split <;> rfl
    have w3 : b_or ((sdV V % 2 ^ k : Nat) : Int) (((if (sdV V).testBit k = true then 1 else 0) * 2 ^ k : Nat) : Int) = ((sdV V % 2 ^ (k + 1) : Nat) : Int) := by
      rw [b_or_nat (by omega) (by split <;> omega), mod_or]
    rw [e_CW_sides_1]
    have f := hH.f hI.ptr; have g := pl_f hH hI.pp hI.ptr; simp only [k_CW_sides_1, en_CW_sides, e_CW_sides_0, k_CW_sides_0, e_CW_sides_2, k_CW_sides_2, rr, sh, Nat.reduceLT, Nat.reduceMul, Int.reduceToNat, Int.reduceGT, Int.reduceGE, Int.reduceNe, true_and, and_true, true_or, or_true, false_or, or_false, and_self, or_self, if_true, if_false, reduceIte, not_true_eq_false, not_false_eq_true, Int.reduceEq, Int.reduceNe, Int.reduceLT, Int.reduceLE, Int.reduceAdd, Int.reduceSub, Int.reduceMul, Int.reduceNeg, Nat.reduceAdd, Nat.reduceLeDiff, Nat.reduceEqDiff, ne_eq, List.length_cons, List.length_nil, Nat.reduceSub, ite10_0, ite10_1, ite10_01, Classical.not_not, f, g, h1, c1, e1, w2, w3, w32_s (show k < 2147483647 by omega)] <;> clear f g e1 w2 w3
    (repeat (refine And.intro (by omega) ?_))
    exact ih
theorem lawC {b f g : Nat} (hn : nS V ≤ 12) (hfx : ∀ k : Nat, k < nS V → 0 ≤ V 94 (12 + k) ∧ V 94 (12 + k) ≤ 2) (hf : f < 2 ^ nS V) (hg : g < 2 ^ nS V) (h : ∀ k : Nat, k < nS V → (f.testBit k = decide (V 94 (12 + k) = 1) ∧ g.testBit k = decide (V 94 (12 + k) = 2))) :
    (b &&& f = 0 ∧ b &&& g = g) ↔ ∀ k : Nat, k < nS V → V 94 (12 + k) ≠ 0 → (b.testBit k = decide (V 94 (12 + k) = 2)) := by
  rw [and_zero_iff hf, and_self_iff' hg]
  constructor
  · rintro ⟨h1, h2⟩ k hk h0
    have h3 := hfx k hk
    obtain ⟨g1, g2⟩ := h k hk
    by_cases h4 : V 94 (12 + k) = 2
    · rw [h2 k hk (by rw [g2]; simp [h4])]; simp [h4]
    · rw [h1 k hk (by rw [g1]; simp; omega)]; simp [h4]
  · intro h1
    refine ⟨fun k hk h2 => ?_, fun k hk h2 => ?_⟩
    · rw [(h k hk).1] at h2
      have h2 := of_decide_eq_true h2
      rw [h1 k hk (by omega)]; simp; omega
    · rw [(h k hk).2] at h2
      have h2 := of_decide_eq_true h2
      rw [h1 k hk (by omega)]; simp [h2]
set_option maxRecDepth 20000 in
set_option maxHeartbeats 4000000 in
theorem q_allows (hI : Inq V) (hH : Vw V H) {b : Nat} (hb : b < 4096) : CC (d + 1) PL_allows [va (V 4 0), vi b] H Q = Q (vi (if lawB V b = true then 1 else 0)) H := by
  refine CC_dt fun Q hQ => ?_
  have hn := hI.boat.s
  have h1 := hI.plan.seats
  have h2 := hI.plan.left
  have hp := pop_lt (n := b)
  have w1 : w32 ((nS V : Int) - pop b) = nS V - pop b := w32_id (by omega) (by omega)
  obtain ⟨f', g', hf, hg, hf2, hg2, hfg⟩ := hI.plan.fixed
  have hf3 := bits_lt hn.2 hf2
  have hg3 := bits_lt hn.2 hg2
  have key := lawC (b := b) hn.2 hI.boat.fix hf2 hg2 hfg
  have e1 : lawB V b = decide ((eaV V = -1 ∨ (nS V : Int) - pop b = eaV V) ∧ (b &&& f' = 0 ∧ b &&& g' = g')) := by
    unfold lawB
    exact decide_eq_decide.mpr (and_congr_right (fun _ => key.symm))
  rw [e1] at hQ
  have z1 : (((b &&& f' : Nat) : Int) = 0) = (b &&& f' = 0) := propext ⟨fun h => by omega, fun h => by omega⟩
  have z2 : (((b &&& g' : Nat) : Int) = (g' : Int)) = (b &&& g' = g') := propext ⟨fun h => by omega, fun h => by omega⟩
  have f := hH.f hI.ptr; have g := pl_f hH hI.pp hI.ptr; simp only [en_PL_allows, e_PL_allows_0, k_PL_allows_0, e_PL_allows_1, k_PL_allows_1, e_PL_allows_2, k_PL_allows_2, e_PL_allows_3, k_PL_allows_3, rr, sh, Nat.reduceLT, Nat.reduceMul, Int.reduceToNat, Int.reduceGT, Int.reduceGE, Int.reduceNe, true_and, and_true, true_or, or_true, false_or, or_false, and_self, or_self, if_true, if_false, reduceIte, not_true_eq_false, not_false_eq_true, Int.reduceEq, Int.reduceNe, Int.reduceLT, Int.reduceLE, Int.reduceAdd, Int.reduceSub, Int.reduceMul, Int.reduceNeg, Nat.reduceAdd, Nat.reduceLeDiff, Nat.reduceEqDiff, ne_eq, List.length_cons, List.length_nil, Nat.reduceSub, ite10_0, ite10_1, ite10_01, Classical.not_not, f, g, h1, h2, hf, hg, b_and_nat (show b < 2147483648 by omega) (show f' < 2147483648 by omega), b_and_nat (show b < 2147483648 by omega) (show g' < 2147483648 by omega), q_bitCount hb, w1, z1, z2] <;> clear f g w1
  by_cases c1 : b &&& f' = 0
  · by_cases c2 : b &&& g' = g'
    · by_cases c3 : eaV V = -1
      · simpa [c1, c2, c3] using hQ
      · by_cases c4 : (nS V : Int) - pop b = eaV V
        · simpa [c1, c2, c3, c4] using hQ
        · simpa [c1, c2, c3, c4] using hQ
    · simpa [c1, c2] using hQ
  · simpa [c1] using hQ
end CR
