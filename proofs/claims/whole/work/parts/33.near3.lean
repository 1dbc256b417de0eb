/-! nearest: both answers -/
def ofs (V : Hp) (b : Nat) : Int := offV V b (V 71 47)
def nbV (V : Hp) : Option (Nat × Int) := nbF (lawB V) (ofs V) (2 ^ nS V)
def nearS (V : Hp) (w : Int) : Int := if 0 ≤ w ∧ w ≤ 2 then (match nbV V with
  | none => -1
  | some q => if w = 0 then q.2 else if w = 1 then q.1 else cntF (fun b => lawB V b && goodB V b (V 71 47)) (2 ^ nS V)) else -1
section NE
variable {d : Nat} {V H : Hp} {Q : AV → Hp → Prop}
set_option maxRecDepth 20000 in
theorem c_isNearest (hM : Inm V) (hH : Vw V H) (hQ : ∀ H', Vw V H' → nbM H' (nbV V) → Q (vi (if (nbV V).isSome = true then 1 else 0)) H') : CC (d + 4) MO_isNearest [va 71] H Q := by
  have hn := hM.boat.s
  have h2 : 2 ^ nS V ≤ 4096 := Nat.pow_le_pow_right (by decide) hn.2
  have e0 := one_shl hn.2
  have f := hH.f hM.ptr; simp only [en_MO_isNearest, e_MO_isNearest_0, k_MO_isNearest_0, rr, sh, Nat.reduceLT, Nat.reduceMul, Int.reduceToNat, Int.reduceGT, Int.reduceGE, Int.reduceNe, true_and, and_true, true_or, or_true, false_or, or_false, and_self, or_self, if_true, if_false, reduceIte, not_true_eq_false, not_false_eq_true, Int.reduceEq, Int.reduceNe, Int.reduceLT, Int.reduceLE, Int.reduceAdd, Int.reduceSub, Int.reduceMul, Int.reduceNeg, Nat.reduceAdd, Nat.reduceLeDiff, Nat.reduceEqDiff, ne_eq, List.length_cons, List.length_nil, Nat.reduceSub, ite10_0, ite10_1, ite10_01, Classical.not_not, f] <;> clear f
  repeat (refine And.intro (by omega) ?_)
  refine up_nat (P := fun m => ∀ H' z, Vw V H' → nbM H' (nbF (lawB V) (ofs V) m) → R (d + 4) MO_isNearest (blk MO_isNearest 1) [va 71, vi m, z, vu] [] H' Q) ?_ ?_ 0 (Nat.zero_le (2 ^ nS V)) _ vu (hH.hs (c := 71) (j := 59) rfl) rfl
  · intro H' z hH a2
    have hq := hQ H' hH a2
    rw [e_MO_isNearest_1]
    unfold nbV at hq
    cases ho : nbF (lawB V) (ofs V) (2 ^ nS V) with
    | none =>
      rw [ho] at a2 hq
      have e1 : H' 71 59 = -1 := a2
      have f := hH.f hM.ptr; simp only [k_MO_isNearest_1, e_MO_isNearest_5, k_MO_isNearest_5, e_MO_isNearest_6, k_MO_isNearest_6, e_MO_isNearest_7, k_MO_isNearest_7, en_MO_seats, e_MO_seats_0, k_MO_seats_0, rr, sh, Nat.reduceLT, Nat.reduceMul, Int.reduceToNat, Int.reduceGT, Int.reduceGE, Int.reduceNe, true_and, and_true, true_or, or_true, false_or, or_false, and_self, or_self, if_true, if_false, reduceIte, not_true_eq_false, not_false_eq_true, Int.reduceEq, Int.reduceNe, Int.reduceLT, Int.reduceLE, Int.reduceAdd, Int.reduceSub, Int.reduceMul, Int.reduceNeg, Nat.reduceAdd, Nat.reduceLeDiff, Nat.reduceEqDiff, ne_eq, List.length_cons, List.length_nil, Nat.reduceSub, ite10_0, ite10_1, ite10_01, Classical.not_not, f, hn.1, e0, e1, Int.le_refl] <;> clear f e0 e1
      exact hq
    | some q =>
      rw [ho] at a2 hq
      have e1 : H' 71 59 = q.1 := a2.1
      have c1 : ¬ (q.1 : Int) = -1 := by omega
      have f := hH.f hM.ptr; simp only [k_MO_isNearest_1, e_MO_isNearest_5, k_MO_isNearest_5, e_MO_isNearest_6, k_MO_isNearest_6, e_MO_isNearest_7, k_MO_isNearest_7, en_MO_seats, e_MO_seats_0, k_MO_seats_0, rr, sh, Nat.reduceLT, Nat.reduceMul, Int.reduceToNat, Int.reduceGT, Int.reduceGE, Int.reduceNe, true_and, and_true, true_or, or_true, false_or, or_false, and_self, or_self, if_true, if_false, reduceIte, not_true_eq_false, not_false_eq_true, Int.reduceEq, Int.reduceNe, Int.reduceLT, Int.reduceLE, Int.reduceAdd, Int.reduceSub, Int.reduceMul, Int.reduceNeg, Nat.reduceAdd, Nat.reduceLeDiff, Nat.reduceEqDiff, ne_eq, List.length_cons, List.length_nil, Nat.reduceSub, ite10_0, ite10_1, ite10_01, Classical.not_not, f, hn.1, e0, e1, c1, Int.le_refl] <;> clear f e0 e1
      exact hq
  · intro m hm ih H' z hH a2
    have c1 : ¬ ((2 ^ nS V : Nat) : Int) ≤ m := by omega
    have hm4 : m < 4096 := by omega
    have eo : nbF (lawB V) (ofs V) (m + 1) = if lawB V m = true then updO (nbF (lawB V) (ofs V) m) m (ofs V m) else nbF (lawB V) (ofs V) m := rfl
    rw [e_MO_isNearest_1]
    have f := hH.f hM.ptr; simp only [k_MO_isNearest_1, e_MO_isNearest_2, k_MO_isNearest_2, e_MO_isNearest_3, k_MO_isNearest_3, e_MO_isNearest_4, k_MO_isNearest_4, en_MO_seats, e_MO_seats_0, k_MO_seats_0, rr, sh, Nat.reduceLT, Nat.reduceMul, Int.reduceToNat, Int.reduceGT, Int.reduceGE, Int.reduceNe, true_and, and_true, true_or, or_true, false_or, or_false, and_self, or_self, if_true, if_false, reduceIte, not_true_eq_false, not_false_eq_true, Int.reduceEq, Int.reduceNe, Int.reduceLT, Int.reduceLE, Int.reduceAdd, Int.reduceSub, Int.reduceMul, Int.reduceNeg, Nat.reduceAdd, Nat.reduceLeDiff, Nat.reduceEqDiff, ne_eq, List.length_cons, List.length_nil, Nat.reduceSub, ite10_0, ite10_1, ite10_01, Classical.not_not, f, hn.1, e0, c1, q_isLawful hM hH hm4, q_offBy hM hH hm4, w32_s (show m < 2147483647 by omega)] <;> clear f e0
    repeat (refine And.intro (by omega) ?_)
    by_cases hl : lawB V m = true
    · rw [if_pos hl] at eo
      rw [if_pos hl]
      repeat (refine And.intro (by omega) ?_)
      show if H' 71 59 = -1 then _ else _
      cases ho : nbF (lawB V) (ofs V) m with
      | none =>
        rw [ho] at a2 eo
        have e1 : H' 71 59 = -1 := a2
        rw [if_pos e1]
        repeat (refine And.intro (by omega) ?_)
        exact ih _ _ ((hH.hs (c := 71) (j := 59) rfl).hs (c := 71) (j := 60) rfl) (by rw [eo]; exact ⟨rfl, rfl⟩)
      | some q =>
        rw [ho] at a2 eo
        obtain ⟨e1, e2⟩ := a2
        have eo : nbF (lawB V) (ofs V) (m + 1) = if ofs V m < q.2 then some (m, ofs V m) else some q := eo
        rw [if_neg (by omega), e2]
        by_cases hlt : ofs V m < q.2
        · rw [if_pos hlt] at eo
          have hlt2 : offV V m (V 71 47) < q.2 := hlt
          rw [if_pos hlt2]
          repeat (refine And.intro (by omega) ?_)
          exact ih _ _ ((hH.hs (c := 71) (j := 59) rfl).hs (c := 71) (j := 60) rfl) (by rw [eo]; exact ⟨rfl, rfl⟩)
        · rw [if_neg hlt] at eo
          have hlt2 : ¬ offV V m (V 71 47) < q.2 := hlt
          rw [if_neg hlt2]
          repeat (refine And.intro (by omega) ?_)
          exact ih _ _ hH (by rw [eo]; exact ⟨e1, e2⟩)
    · rw [if_neg hl] at eo
      rw [if_neg hl]
      repeat (refine And.intro (by omega) ?_)
      exact ih _ _ hH (by rw [eo]; exact a2)
set_option maxRecDepth 20000 in
theorem c_nearestM (hM : Inm V) (hH : Vw V H) {w : Int} (hQ : ∀ H', Vw V H' → Q (vl (nearS V w)) H') : CC (d + 5) MO_nearest [va 71, vi w] H Q := by
  have hn := hM.boat.s
  have h2 : 2 ^ nS V ≤ 4096 := Nat.pow_le_pow_right (by decide) hn.2
  have e0 := one_shl hn.2
  have f := hH.f hM.ptr; simp only [en_MO_nearest, e_MO_nearest_0, k_MO_nearest_0, e_MO_nearest_1, k_MO_nearest_1, rr, sh, Nat.reduceLT, Nat.reduceMul, Int.reduceToNat, Int.reduceGT, Int.reduceGE, Int.reduceNe, true_and, and_true, true_or, or_true, false_or, or_false, and_self, or_self, if_true, if_false, reduceIte, not_true_eq_false, not_false_eq_true, Int.reduceEq, Int.reduceNe, Int.reduceLT, Int.reduceLE, Int.reduceAdd, Int.reduceSub, Int.reduceMul, Int.reduceNeg, Nat.reduceAdd, Nat.reduceLeDiff, Nat.reduceEqDiff, ne_eq, List.length_cons, List.length_nil, Nat.reduceSub, ite10_0, ite10_1, ite10_01, Classical.not_not, f, q_isIn] <;> clear f
  repeat (refine And.intro (by omega) ?_)
  by_cases hw : 0 ≤ w ∧ w ≤ 2
  · rw [if_neg (fun q => q hw)]
    repeat (refine And.intro (by omega) ?_)
    refine c_isNearest hM hH fun H1 hH b2 => ?_
    have hq := hQ H1 hH
    have hV0 := hQ
    unfold nearS at hq hV0
    rw [if_pos hw] at hq hV0
    cases ho : nbV V with
    | none =>
      rw [ho] at hq
      simp only [Option.isSome_none, Bool.false_eq_true, if_false, not_true_eq_false, ne_eq]
      simp only [e_MO_nearest_1, k_MO_nearest_1, rr, sh, Nat.reduceLT, Nat.reduceMul, Int.reduceToNat, Int.reduceGT, Int.reduceGE, Int.reduceNe, true_and, and_true, true_or, or_true, false_or, or_false, and_self, or_self, if_true, if_false, reduceIte, not_true_eq_false, not_false_eq_true, Int.reduceEq, Int.reduceNe, Int.reduceLT, Int.reduceLE, Int.reduceAdd, Int.reduceSub, Int.reduceMul, Int.reduceNeg, Nat.reduceAdd, Nat.reduceLeDiff, Nat.reduceEqDiff, ne_eq, List.length_cons, List.length_nil, Nat.reduceSub, ite10_0, ite10_1, ite10_01, Classical.not_not]
      exact hq
    | some q =>
      rw [ho] at b2 hq hV0
      obtain ⟨b1, b2⟩ := b2
      have z1 : ¬ ((1 : Int) = 0) := by decide
      simp only [Option.isSome_some, if_true, not_false_eq_true, ne_eq, z1]
      have f := hH.f hM.ptr; simp only [e_MO_nearest_2, k_MO_nearest_2, e_MO_nearest_3, k_MO_nearest_3, e_MO_nearest_4, k_MO_nearest_4, e_MO_nearest_5, k_MO_nearest_5, rr, sh, Nat.reduceLT, Nat.reduceMul, Int.reduceToNat, Int.reduceGT, Int.reduceGE, Int.reduceNe, true_and, and_true, true_or, or_true, false_or, or_false, and_self, or_self, if_true, if_false, reduceIte, not_true_eq_false, not_false_eq_true, Int.reduceEq, Int.reduceNe, Int.reduceLT, Int.reduceLE, Int.reduceAdd, Int.reduceSub, Int.reduceMul, Int.reduceNeg, Nat.reduceAdd, Nat.reduceLeDiff, Nat.reduceEqDiff, ne_eq, List.length_cons, List.length_nil, Nat.reduceSub, ite10_0, ite10_1, ite10_01, Classical.not_not, f, b1, b2] <;> clear f
      by_cases hw2 : 2 ≤ w
      · rw [if_pos hw2]
        have hw3 : ¬ w = 0 := by omega
        have hw4 : ¬ w = 1 := by omega
        simp only [hw3, hw4, if_false] at hV0
        repeat (refine And.intro (by omega) ?_)
        clear hq b1 b2
        refine up_nat (P := fun m => ∀ H', Vw V H' → R (d + 5) MO_nearest (blk MO_nearest 6) [va 71, vi w, vi (cntF (fun b => lawB V b && goodB V b (V 71 47)) m), vi m] [] H' Q) ?_ ?_ 0 (Nat.zero_le (2 ^ nS V)) H1 hH
        · intro H' hH
          rw [e_MO_nearest_6]
          have f := hH.f hM.ptr; simp only [k_MO_nearest_6, e_MO_nearest_8, k_MO_nearest_8, en_MO_seats, e_MO_seats_0, k_MO_seats_0, rr, sh, Nat.reduceLT, Nat.reduceMul, Int.reduceToNat, Int.reduceGT, Int.reduceGE, Int.reduceNe, true_and, and_true, true_or, or_true, false_or, or_false, and_self, or_self, if_true, if_false, reduceIte, not_true_eq_false, not_false_eq_true, Int.reduceEq, Int.reduceNe, Int.reduceLT, Int.reduceLE, Int.reduceAdd, Int.reduceSub, Int.reduceMul, Int.reduceNeg, Nat.reduceAdd, Nat.reduceLeDiff, Nat.reduceEqDiff, ne_eq, List.length_cons, List.length_nil, Nat.reduceSub, ite10_0, ite10_1, ite10_01, Classical.not_not, f, hn.1, e0, Int.le_refl] <;> clear f e0
          exact hV0 H' hH
        · intro m hm ih H' hH
          have c1 : ¬ ((2 ^ nS V : Nat) : Int) ≤ m := by omega
          have hm4 : m < 4096 := by omega
          have hcr := cntF_rng (fun b => lawB V b && goodB V b (V 71 47)) m
          have eg : cntF (fun b => lawB V b && goodB V b (V 71 47)) (m + 1) = cntF (fun b => lawB V b && goodB V b (V 71 47)) m + if (lawB V m && goodB V m (V 71 47)) = true then 1 else 0 := rfl
          have w1 : w32 (cntF (fun b => lawB V b && goodB V b (V 71 47)) m + 1) = cntF (fun b => lawB V b && goodB V b (V 71 47)) m + 1 := w32_id (by omega) (by omega)
          have ih := ih H' hH
          rw [e_MO_nearest_6]
          have f := hH.f hM.ptr; simp only [k_MO_nearest_6, e_MO_nearest_7, k_MO_nearest_7, en_MO_seats, e_MO_seats_0, k_MO_seats_0, rr, sh, Nat.reduceLT, Nat.reduceMul, Int.reduceToNat, Int.reduceGT, Int.reduceGE, Int.reduceNe, true_and, and_true, true_or, or_true, false_or, or_false, and_self, or_self, if_true, if_false, reduceIte, not_true_eq_false, not_false_eq_true, Int.reduceEq, Int.reduceNe, Int.reduceLT, Int.reduceLE, Int.reduceAdd, Int.reduceSub, Int.reduceMul, Int.reduceNeg, Nat.reduceAdd, Nat.reduceLeDiff, Nat.reduceEqDiff, ne_eq, List.length_cons, List.length_nil, Nat.reduceSub, ite10_0, ite10_1, ite10_01, Classical.not_not, f, hn.1, e0, c1, w1, q_isLawful hM hH hm4, q_isGoodM hM hH hm4, w32_s (show m < 2147483647 by omega)] <;> clear f e0 w1
          repeat (refine And.intro (by omega) ?_)
          rw [eg] at ih
          by_cases hl : lawB V m = true
          · rw [if_neg (fun q => q hl)]
            repeat (refine And.intro (by omega) ?_)
            by_cases hg : goodB V m (V 71 47) = true
            · rw [if_neg (fun q => q hg)]
              rw [hl, hg, if_pos (by decide)] at ih
              repeat (refine And.intro (by omega) ?_)
              exact ih
            · rw [if_pos hg]
              have hg2 : goodB V m (V 71 47) = false := by simpa using hg
              rw [hl, hg2, if_neg (by decide), Int.add_zero] at ih
              repeat (refine And.intro (by omega) ?_)
              exact ih
          · rw [if_pos hl]
            have hl2 : lawB V m = false := by simpa using hl
            rw [hl2, Bool.false_and, if_neg (by decide), Int.add_zero] at ih
            repeat (refine And.intro (by omega) ?_)
            exact ih
      · rw [if_neg hw2]
        by_cases hw3 : w = 0
        · subst hw3
          simp only [if_true] at hq
          simpa using hq
        · have hw4 : w = 1 := by omega
          subst hw4
          simpa using hq
  · have hq := hQ H hH
    unfold nearS at hq
    rw [if_neg hw] at hq
    rw [if_pos hw]
    exact hq
set_option maxRecDepth 20000 in
theorem c_nearestC (hI : Inq V) (hH : Vw V H) {w : Int} (hQ : ∀ H', Vw V H' → Q (vl (nearS V w)) H') : CC (d + 6) EO_nearest [va 1, vi w] H Q := by
  by_cases hw : 0 ≤ w ∧ w ≤ 2
  · have c1 : ¬ w < 0 := by omega
    have c2 : ¬ 2 < w := by omega
    have f := hH.f hI.ptr; have g := pl_f hH hI.pp hI.ptr; simp only [en_EO_nearest, e_EO_nearest_0, k_EO_nearest_0, e_EO_nearest_1, k_EO_nearest_1, rr, sh, Nat.reduceLT, Nat.reduceMul, Int.reduceToNat, Int.reduceGT, Int.reduceGE, Int.reduceNe, true_and, and_true, true_or, or_true, false_or, or_false, and_self, or_self, if_true, if_false, reduceIte, not_true_eq_false, not_false_eq_true, Int.reduceEq, Int.reduceNe, Int.reduceLT, Int.reduceLE, Int.reduceAdd, Int.reduceSub, Int.reduceMul, Int.reduceNeg, Nat.reduceAdd, Nat.reduceLeDiff, Nat.reduceEqDiff, ne_eq, List.length_cons, List.length_nil, Nat.reduceSub, ite10_0, ite10_1, ite10_01, Classical.not_not, f, g, c1, c2] <;> clear f g
    repeat (refine And.intro (by omega) ?_)
    refine c_findAs hI hH fun H1 hH b2 b3 => ?_
    have hq := hQ H1 hH
    unfold nearS at hq
    rw [if_pos hw] at hq
    change nbH H1 (nbV V) at b2
    show _
    change _ at hq
    have hsome : (nbF (lawB V) (fun b => offV V b (V 71 47)) (2 ^ nS V)) = nbV V := rfl
    rw [hsome]
    cases ho : nbV V with
    | none =>
      rw [ho] at hq
      simp only [Option.isSome_none, Bool.false_eq_true, if_false, not_true_eq_false, ne_eq]
      simp only [e_EO_nearest_1, k_EO_nearest_1, rr, sh, Nat.reduceLT, Nat.reduceMul, Int.reduceToNat, Int.reduceGT, Int.reduceGE, Int.reduceNe, true_and, and_true, true_or, or_true, false_or, or_false, and_self, or_self, if_true, if_false, reduceIte, not_true_eq_false, not_false_eq_true, Int.reduceEq, Int.reduceNe, Int.reduceLT, Int.reduceLE, Int.reduceAdd, Int.reduceSub, Int.reduceMul, Int.reduceNeg, Nat.reduceAdd, Nat.reduceLeDiff, Nat.reduceEqDiff, ne_eq, List.length_cons, List.length_nil, Nat.reduceSub, ite10_0, ite10_1, ite10_01, Classical.not_not]
      exact hq
    | some q =>
      rw [ho] at b2 hq
      obtain ⟨b4, b5, b6⟩ := b2
      have z1 : ¬ ((1 : Int) = 0) := by decide
      simp only [Option.isSome_some, if_true, not_false_eq_true, ne_eq, z1]
      have f := hH.f hI.ptr; have g := pl_f hH hI.pp hI.ptr; simp only [e_EO_nearest_2, k_EO_nearest_2, e_EO_nearest_3, k_EO_nearest_3, e_EO_nearest_4, k_EO_nearest_4, e_EO_nearest_5, k_EO_nearest_5, rr, sh, Nat.reduceLT, Nat.reduceMul, Int.reduceToNat, Int.reduceGT, Int.reduceGE, Int.reduceNe, true_and, and_true, true_or, or_true, false_or, or_false, and_self, or_self, if_true, if_false, reduceIte, not_true_eq_false, not_false_eq_true, Int.reduceEq, Int.reduceNe, Int.reduceLT, Int.reduceLE, Int.reduceAdd, Int.reduceSub, Int.reduceMul, Int.reduceNeg, Nat.reduceAdd, Nat.reduceLeDiff, Nat.reduceEqDiff, ne_eq, List.length_cons, List.length_nil, Nat.reduceSub, ite10_0, ite10_1, ite10_01, Classical.not_not, f, g, b4, b5, b6, b3, RSW_c, RSW_n] <;> clear f g
      by_cases hw3 : w = 0
      · subst hw3
        simpa using hq
      · by_cases hw4 : w = 1
        · subst hw4
          simpa using hq
        · simpa [hw3, hw4] using hq
  · have hq := hQ H hH
    unfold nearS at hq
    rw [if_neg hw] at hq
    by_cases c1 : w < 0
    · have f := hH.f hI.ptr; have g := pl_f hH hI.pp hI.ptr; simp only [en_EO_nearest, e_EO_nearest_0, k_EO_nearest_0, e_EO_nearest_1, k_EO_nearest_1, rr, sh, Nat.reduceLT, Nat.reduceMul, Int.reduceToNat, Int.reduceGT, Int.reduceGE, Int.reduceNe, true_and, and_true, true_or, or_true, false_or, or_false, and_self, or_self, if_true, if_false, reduceIte, not_true_eq_false, not_false_eq_true, Int.reduceEq, Int.reduceNe, Int.reduceLT, Int.reduceLE, Int.reduceAdd, Int.reduceSub, Int.reduceMul, Int.reduceNeg, Nat.reduceAdd, Nat.reduceLeDiff, Nat.reduceEqDiff, ne_eq, List.length_cons, List.length_nil, Nat.reduceSub, ite10_0, ite10_1, ite10_01, Classical.not_not, f, g, c1] <;> clear f g
      exact hq
    · have c2 : 2 < w := by omega
      have f := hH.f hI.ptr; have g := pl_f hH hI.pp hI.ptr; simp only [en_EO_nearest, e_EO_nearest_0, k_EO_nearest_0, e_EO_nearest_1, k_EO_nearest_1, rr, sh, Nat.reduceLT, Nat.reduceMul, Int.reduceToNat, Int.reduceGT, Int.reduceGE, Int.reduceNe, true_and, and_true, true_or, or_true, false_or, or_false, and_self, or_self, if_true, if_false, reduceIte, not_true_eq_false, not_false_eq_true, Int.reduceEq, Int.reduceNe, Int.reduceLT, Int.reduceLE, Int.reduceAdd, Int.reduceSub, Int.reduceMul, Int.reduceNeg, Nat.reduceAdd, Nat.reduceLeDiff, Nat.reduceEqDiff, ne_eq, List.length_cons, List.length_nil, Nat.reduceSub, ite10_0, ite10_1, ite10_01, Classical.not_not, f, g, c1, c2] <;> clear f g
      exact hq
end NE
