/-! made: both calls, the pair -/
theorem CC_d {d d' m : Nat} {a : List AV} {H : Hp} {Q : AV → Hp → Prop} (h : d = d') (hc : CC d' m a H Q) : CC d m a H Q := h ▸ hc
section PM
variable {d : Nat} {V X H : Hp} {Q : AV → Hp → Prop}
set_option maxRecDepth 20000 in
theorem c_madeC (hI : Inq V) {n k : Int} (hk : k < 2147483648) (hQ : ∀ H', Vw V H' → Q (vi (madeS n k)) H') : CC (d + 20) EO_made [va 1, vi n, vi k] V Q := by
  have p9 : V 1 9 = 66 := hI.ptr (1, 9, 66) (by decide +kernel)
  unfold madeS at hQ
  by_cases c1 : n < 1
  · simp only [en_EO_made, e_EO_made_0, k_EO_made_0, en_HV_wayAt, e_HV_wayAt_0, k_HV_wayAt_0, e_HV_wayAt_1, k_HV_wayAt_1, rr, sh, Nat.reduceLT, Nat.reduceMul, Int.reduceToNat, Int.reduceGT, Int.reduceGE, Int.reduceNe, true_and, and_true, true_or, or_true, false_or, or_false, and_self, or_self, if_true, if_false, reduceIte, not_true_eq_false, not_false_eq_true, Int.reduceEq, Int.reduceNe, Int.reduceLT, Int.reduceLE, Int.reduceAdd, Int.reduceSub, Int.reduceMul, Int.reduceNeg, Nat.reduceAdd, Nat.reduceLeDiff, Nat.reduceEqDiff, ne_eq, List.length_cons, List.length_nil, Nat.reduceSub, p9, c1]
    have := hQ V Vw.rf
    rw [if_neg (by omega)] at this
    exact this
  · by_cases c2 : 16 < n
    · simp only [en_EO_made, e_EO_made_0, k_EO_made_0, en_HV_wayAt, e_HV_wayAt_0, k_HV_wayAt_0, e_HV_wayAt_1, k_HV_wayAt_1, rr, sh, Nat.reduceLT, Nat.reduceMul, Int.reduceToNat, Int.reduceGT, Int.reduceGE, Int.reduceNe, true_and, and_true, true_or, or_true, false_or, or_false, and_self, or_self, if_true, if_false, reduceIte, not_true_eq_false, not_false_eq_true, Int.reduceEq, Int.reduceNe, Int.reduceLT, Int.reduceLE, Int.reduceAdd, Int.reduceSub, Int.reduceMul, Int.reduceNeg, Nat.reduceAdd, Nat.reduceLeDiff, Nat.reduceEqDiff, ne_eq, List.length_cons, List.length_nil, Nat.reduceSub, p9, c1, c2]
      have := hQ V Vw.rf
      rw [if_neg (by omega)] at this
      exact this
    · obtain ⟨m, rfl⟩ := Int.eq_ofNat_of_zero_le (show 0 ≤ n by omega)
      have hm : m ≤ 16 := by omega
      have w4 : w32 ((m : Int).tmod 4) = ((m % 4 : Nat) : Int) := by rw [Int.tmod_eq_emod_of_nonneg (by omega), w32_id (by omega) (by omega)]; omega
      by_cases c3 : m % 4 = 0
      · have c3' : ((m % 4 : Nat) : Int) = 0 := by rw [c3]; rfl
        by_cases c4 : 0 ≤ k
        · obtain ⟨t, rfl⟩ := Int.eq_ofNat_of_zero_le c4
          rw [if_pos (by omega), Int.toNat_natCast, Int.toNat_natCast, gdL_4 hm c3] at hQ
          have hd : ∀ m : Nat, m ≤ 16 → m % 4 = 0 → w32 ((m : Int).tdiv 2) = ((m / 2 : Nat) : Int) ∧ w32 ((w32 ((m : Int) * w32 ((m : Int) + 1))).tdiv 4) = ((m * (m + 1) / 4 : Nat) : Int) := by
            have h : (List.range 17).all (fun m => decide (w32 ((m : Int).tdiv 2) = ((m / 2 : Nat) : Int) ∧ w32 ((w32 ((m : Int) * w32 ((m : Int) + 1))).tdiv 4) = ((m * (m + 1) / 4 : Nat) : Int)) || decide (m % 4 ≠ 0)) = true := by decide +kernel
            intro m hm h4
            have := List.all_eq_true.mp h m (List.mem_range.mpr (by omega))
            simpa [h4] using this
          obtain ⟨w5, w6⟩ := hd m hm c3
          have hcan : canP m ((m / 2 : Nat) : Int) ((m * (m + 1) / 4 : Nat) : Int) := by
            obtain ⟨q, rfl⟩ : ∃ q, m = 4 * q := ⟨m / 4, by omega⟩
            have e1 : 4 * q / 2 = 2 * q := by omega
            have e2 : 4 * q * (4 * q + 1) / 4 = q * (4 * q + 1) := by rw [Nat.mul_assoc]; omega
            rw [e1, e2]
            refine ⟨⟨by omega, by omega⟩, ?_, ?_⟩
            · have : ((q * (4 * q + 1) : Nat) : Int) = q * (4 * (q : Int) + 1) := by push_cast; rfl
              rw [this]
              have e : 2 * ((q : Int) * (4 * (q : Int) + 1)) = ((2 * q : Nat) : Int) * (((2 * q : Nat) : Int) + 1) + 4 * ((q : Int) * q) := by push_cast; grind
              have : 0 ≤ (q : Int) * q := Int.mul_nonneg (by omega) (by omega)
              omega
            · have : ((q * (4 * q + 1) : Nat) : Int) = q * (4 * (q : Int) + 1) := by push_cast; rfl
              rw [this]
              have e : ((2 * q : Nat) : Int) * (2 * ((4 * q : Nat) : Int) - ((2 * q : Nat) : Int) + 1) = 2 * ((q : Int) * (4 * (q : Int) + 1)) + 4 * ((q : Int) * q) := by push_cast; grind
              have : 0 ≤ (q : Int) * q := Int.mul_nonneg (by omega) (by omega)
              omega
          simp only [en_EO_made, e_EO_made_0, k_EO_made_0, en_HV_wayAt, e_HV_wayAt_0, k_HV_wayAt_0, e_HV_wayAt_2, k_HV_wayAt_2, rr, sh, Nat.reduceLT, Nat.reduceMul, Int.reduceToNat, Int.reduceGT, Int.reduceGE, Int.reduceNe, true_and, and_true, true_or, or_true, false_or, or_false, and_self, or_self, if_true, if_false, reduceIte, not_true_eq_false, not_false_eq_true, Int.reduceEq, Int.reduceNe, Int.reduceLT, Int.reduceLE, Int.reduceAdd, Int.reduceSub, Int.reduceMul, Int.reduceNeg, Nat.reduceAdd, Nat.reduceLeDiff, Nat.reduceEqDiff, ne_eq, List.length_cons, List.length_nil, Nat.reduceSub, p9, c1, c2, w4, c3', c4, w5, w6]
          have hd2 : d + 18 = (d + (17 - m)) + m + 1 := by clear w5 w6 w4 hcan hd hQ c3'; omega
          have hV : Vw V (hs V 66 3 (t : Int)) := Vw.rf.hs (c := 66) (j := 3) rfl
          have hF : ∀ {H'}, Fx s663 (hs V 66 3 (t : Int)) H' → Vw V H' := fun {H'} h => hV.fx h (fun a b q => by
            unfold s663 at q
            by_cases h1 : a = 66
            · subst h1
              have : b = 3 := by simpa using q
              subst this; rfl
            · simp [h1] at q)
          refine CC_d hd2 (c_choose m (bits := 0) (t := t) (d := d + (17 - m)) hm hcan hs_same (by clear w5 w6 w4 hcan hd hQ c3' hd2; omega) (by decide) (fun b H' q1 q2 => ?_) (fun H' q1 q2 q3 => ?_))
          · simp only [rr, sh, Nat.reduceLT, Nat.reduceMul, Int.reduceToNat, Int.reduceGT, Int.reduceGE, Int.reduceNe, true_and, and_true, true_or, or_true, false_or, or_false, and_self, or_self, if_true, if_false, reduceIte, not_true_eq_false, not_false_eq_true, Int.reduceEq, Int.reduceNe, Int.reduceLT, Int.reduceLE, Int.reduceAdd, Int.reduceSub, Int.reduceMul, Int.reduceNeg, Nat.reduceAdd, Nat.reduceLeDiff, Nat.reduceEqDiff, ne_eq, List.length_cons, List.length_nil, Nat.reduceSub]
            have := hQ H' (hF q2)
            rw [q1] at this
            rw [Nat.zero_or]
            exact this
          · simp only [rr, sh, Nat.reduceLT, Nat.reduceMul, Int.reduceToNat, Int.reduceGT, Int.reduceGE, Int.reduceNe, true_and, and_true, true_or, or_true, false_or, or_false, and_self, or_self, if_true, if_false, reduceIte, not_true_eq_false, not_false_eq_true, Int.reduceEq, Int.reduceNe, Int.reduceLT, Int.reduceLE, Int.reduceAdd, Int.reduceSub, Int.reduceMul, Int.reduceNeg, Nat.reduceAdd, Nat.reduceLeDiff, Nat.reduceEqDiff, ne_eq, List.length_cons, List.length_nil, Nat.reduceSub]
            have := hQ H' (hF q2)
            rw [q1] at this
            exact this
        · simp only [en_EO_made, e_EO_made_0, k_EO_made_0, en_HV_wayAt, e_HV_wayAt_0, k_HV_wayAt_0, e_HV_wayAt_1, k_HV_wayAt_1, rr, sh, Nat.reduceLT, Nat.reduceMul, Int.reduceToNat, Int.reduceGT, Int.reduceGE, Int.reduceNe, true_and, and_true, true_or, or_true, false_or, or_false, and_self, or_self, if_true, if_false, reduceIte, not_true_eq_false, not_false_eq_true, Int.reduceEq, Int.reduceNe, Int.reduceLT, Int.reduceLE, Int.reduceAdd, Int.reduceSub, Int.reduceMul, Int.reduceNeg, Nat.reduceAdd, Nat.reduceLeDiff, Nat.reduceEqDiff, ne_eq, List.length_cons, List.length_nil, Nat.reduceSub, p9, c1, c2, w4, c3', c4]
          have := hQ V Vw.rf
          rw [if_neg (fun z => c4 z.2)] at this
          exact this
      · have c3' : ¬ ((m % 4 : Nat) : Int) = 0 := by clear w4; omega
        simp only [en_EO_made, e_EO_made_0, k_EO_made_0, en_HV_wayAt, e_HV_wayAt_0, k_HV_wayAt_0, e_HV_wayAt_1, k_HV_wayAt_1, rr, sh, Nat.reduceLT, Nat.reduceMul, Int.reduceToNat, Int.reduceGT, Int.reduceGE, Int.reduceNe, true_and, and_true, true_or, or_true, false_or, or_false, and_self, or_self, if_true, if_false, reduceIte, not_true_eq_false, not_false_eq_true, Int.reduceEq, Int.reduceNe, Int.reduceLT, Int.reduceLE, Int.reduceAdd, Int.reduceSub, Int.reduceMul, Int.reduceNeg, Nat.reduceAdd, Nat.reduceLeDiff, Nat.reduceEqDiff, ne_eq, List.length_cons, List.length_nil, Nat.reduceSub, p9, c1, c2, w4, c3']
        have := hQ V Vw.rf
        rw [Int.toNat_natCast, gdL_no hm c3] at this
        by_cases q : (1 ≤ (m : Int) ∧ (m : Int) ≤ 16) ∧ 0 ≤ k
        · rw [if_pos q] at this; simpa [oI] using this
        · rw [if_neg q] at this; exact this
set_option maxRecDepth 20000 in
theorem q_madeM {n k : Int} : CC (d + 2) MO_made [va 71, vi n, vi k] H Q = Q (vi (madeS n k)) H := by
  refine CC_dt fun Q hQ => ?_
  unfold madeS at hQ
  by_cases hn : 1 ≤ n ∧ n ≤ 16
  · by_cases c4 : 0 ≤ k
    · obtain ⟨m, rfl⟩ := Int.eq_ofNat_of_zero_le (show 0 ≤ n by omega)
      obtain ⟨t, rfl⟩ := Int.eq_ofNat_of_zero_le c4
      have hm : m ≤ 16 := by omega
      have h2 := pow16 hm
      have e0 := one_shl16 hm
      rw [if_pos ⟨hn, c4⟩, Int.toNat_natCast, Int.toNat_natCast] at hQ
      simp only [en_MO_made, e_MO_made_0, k_MO_made_0, e_MO_made_2, k_MO_made_2, rr, sh, Nat.reduceLT, Nat.reduceMul, Int.reduceToNat, Int.reduceGT, Int.reduceGE, Int.reduceNe, true_and, and_true, true_or, or_true, false_or, or_false, and_self, or_self, if_true, if_false, reduceIte, not_true_eq_false, not_false_eq_true, Int.reduceEq, Int.reduceNe, Int.reduceLT, Int.reduceLE, Int.reduceAdd, Int.reduceSub, Int.reduceMul, Int.reduceNeg, Nat.reduceAdd, Nat.reduceLeDiff, Nat.reduceEqDiff, ne_eq, List.length_cons, List.length_nil, Nat.reduceSub, q_isIn, hn, c4]
      refine up_nat (P := fun b => ((List.range b).filter (gdB m)).length ≤ t → R (d + 2) MO_made (blk MO_made 3) [va 71, vi m, vi t, vi ((((List.range b).filter (gdB m)).length : Nat) : Int), vi b] [] H Q) ?_ ?_ 0 (Nat.zero_le (2 ^ m)) (Nat.zero_le _)
      · intro hl
        have : (gdL m)[t]? = none := List.getElem?_eq_none (by unfold gdL; exact hl)
        rw [this] at hQ
        rw [e_MO_made_3]
        simp only [k_MO_made_3, e_MO_made_7, k_MO_made_7, rr, sh, Nat.reduceLT, Nat.reduceMul, Int.reduceToNat, Int.reduceGT, Int.reduceGE, Int.reduceNe, true_and, and_true, true_or, or_true, false_or, or_false, and_self, or_self, if_true, if_false, reduceIte, not_true_eq_false, not_false_eq_true, Int.reduceEq, Int.reduceNe, Int.reduceLT, Int.reduceLE, Int.reduceAdd, Int.reduceSub, Int.reduceMul, Int.reduceNeg, Nat.reduceAdd, Nat.reduceLeDiff, Nat.reduceEqDiff, ne_eq, List.length_cons, List.length_nil, Nat.reduceSub, e0, Int.le_refl]
        exact hQ
      · intro b hb ih hl
        have c1 : ¬ ((2 ^ m : Nat) : Int) ≤ b := by have := Int.ofNat_lt.mpr hb; clear ih hQ e0; omega
        have hb6 : b < 65536 := Nat.lt_of_lt_of_le hb h2
        have kw := w32_s (n := b) (by clear ih hQ e0; omega)
        have hll : ((List.range b).filter (gdB m)).length ≤ b := by have := List.length_filter_le (gdB m) (List.range b); rwa [List.length_range] at this
        have q0 : ∀ {Q : AV → Hp → Prop}, CC (d + 1) MO_sumBy [vi m, vi b, vi 0] H Q = Q (vl (sbV m b 0)) H := fun {Q} => q_sumBy (p := 0) hm hb6 (by decide)
        have q1 : ∀ {Q : AV → Hp → Prop}, CC (d + 1) MO_sumBy [vi m, vi b, vi 1] H Q = Q (vl (sbV m b 1)) H := fun {Q} => q_sumBy (p := 1) hm hb6 (by decide)
        have ih' := ih
        rw [filter_s] at ih'
        rw [e_MO_made_3]
        by_cases g0 : sbV m b 0 = 0
        · by_cases g1 : sbV m b 1 = 0
          · have hg : gdB m b = true := by unfold gdB; simp [g0, g1]
            rw [if_pos hg] at ih'
            by_cases he : ((List.range b).filter (gdB m)).length = t
            · have := filter_at hb hg
              rw [he] at this
              have : (gdL m)[t]? = some b := this
              rw [this] at hQ
              simp only [k_MO_made_3, e_MO_made_4, k_MO_made_4, e_MO_made_5, k_MO_made_5, e_MO_made_6, k_MO_made_6, rr, sh, Nat.reduceLT, Nat.reduceMul, Int.reduceToNat, Int.reduceGT, Int.reduceGE, Int.reduceNe, true_and, and_true, true_or, or_true, false_or, or_false, and_self, or_self, if_true, if_false, reduceIte, not_true_eq_false, not_false_eq_true, Int.reduceEq, Int.reduceNe, Int.reduceLT, Int.reduceLE, Int.reduceAdd, Int.reduceSub, Int.reduceMul, Int.reduceNeg, Nat.reduceAdd, Nat.reduceLeDiff, Nat.reduceEqDiff, ne_eq, List.length_cons, List.length_nil, Nat.reduceSub, e0, c1, q0, q1, c3_eq, g0, g1, he]
              exact hQ
            · have he' : ¬ ((((List.range b).filter (gdB m)).length : Nat) : Int) = t := fun z => he (Int.ofNat_inj.mp z)
              have kw2 := w32_s (n := ((List.range b).filter (gdB m)).length) (by clear ih ih' hQ e0 kw; omega)
              simp only [k_MO_made_3, e_MO_made_4, k_MO_made_4, e_MO_made_5, k_MO_made_5, e_MO_made_6, k_MO_made_6, rr, sh, Nat.reduceLT, Nat.reduceMul, Int.reduceToNat, Int.reduceGT, Int.reduceGE, Int.reduceNe, true_and, and_true, true_or, or_true, false_or, or_false, and_self, or_self, if_true, if_false, reduceIte, not_true_eq_false, not_false_eq_true, Int.reduceEq, Int.reduceNe, Int.reduceLT, Int.reduceLE, Int.reduceAdd, Int.reduceSub, Int.reduceMul, Int.reduceNeg, Nat.reduceAdd, Nat.reduceLeDiff, Nat.reduceEqDiff, ne_eq, List.length_cons, List.length_nil, Nat.reduceSub, e0, c1, q0, q1, c3_eq, g0, g1, he', kw, kw2]
              exact ih' (Nat.lt_of_le_of_ne hl he)
          · have hg : ¬ gdB m b = true := by unfold gdB; simp [g0, g1]
            rw [if_neg hg] at ih'
            simp only [k_MO_made_3, e_MO_made_4, k_MO_made_4, e_MO_made_5, k_MO_made_5, e_MO_made_6, k_MO_made_6, rr, sh, Nat.reduceLT, Nat.reduceMul, Int.reduceToNat, Int.reduceGT, Int.reduceGE, Int.reduceNe, true_and, and_true, true_or, or_true, false_or, or_false, and_self, or_self, if_true, if_false, reduceIte, not_true_eq_false, not_false_eq_true, Int.reduceEq, Int.reduceNe, Int.reduceLT, Int.reduceLE, Int.reduceAdd, Int.reduceSub, Int.reduceMul, Int.reduceNeg, Nat.reduceAdd, Nat.reduceLeDiff, Nat.reduceEqDiff, ne_eq, List.length_cons, List.length_nil, Nat.reduceSub, e0, c1, q0, q1, c3_eq, g0, g1, kw]
            exact ih' hl
        · have hg : ¬ gdB m b = true := by unfold gdB; simp [g0]
          rw [if_neg hg] at ih'
          simp only [k_MO_made_3, e_MO_made_4, k_MO_made_4, e_MO_made_5, k_MO_made_5, e_MO_made_6, k_MO_made_6, rr, sh, Nat.reduceLT, Nat.reduceMul, Int.reduceToNat, Int.reduceGT, Int.reduceGE, Int.reduceNe, true_and, and_true, true_or, or_true, false_or, or_false, and_self, or_self, if_true, if_false, reduceIte, not_true_eq_false, not_false_eq_true, Int.reduceEq, Int.reduceNe, Int.reduceLT, Int.reduceLE, Int.reduceAdd, Int.reduceSub, Int.reduceMul, Int.reduceNeg, Nat.reduceAdd, Nat.reduceLeDiff, Nat.reduceEqDiff, ne_eq, List.length_cons, List.length_nil, Nat.reduceSub, e0, c1, q0, q1, c3_eq, g0, kw]
          exact ih' hl
    · rw [if_neg (fun z => c4 z.2)] at hQ
      simp only [en_MO_made, e_MO_made_0, k_MO_made_0, e_MO_made_1, k_MO_made_1, rr, sh, Nat.reduceLT, Nat.reduceMul, Int.reduceToNat, Int.reduceGT, Int.reduceGE, Int.reduceNe, true_and, and_true, true_or, or_true, false_or, or_false, and_self, or_self, if_true, if_false, reduceIte, not_true_eq_false, not_false_eq_true, Int.reduceEq, Int.reduceNe, Int.reduceLT, Int.reduceLE, Int.reduceAdd, Int.reduceSub, Int.reduceMul, Int.reduceNeg, Nat.reduceAdd, Nat.reduceLeDiff, Nat.reduceEqDiff, ne_eq, List.length_cons, List.length_nil, Nat.reduceSub, q_isIn, hn, c4]
      exact hQ
  · rw [if_neg (fun z => hn z.1)] at hQ
    simp only [en_MO_made, e_MO_made_0, k_MO_made_0, e_MO_made_1, k_MO_made_1, rr, sh, Nat.reduceLT, Nat.reduceMul, Int.reduceToNat, Int.reduceGT, Int.reduceGE, Int.reduceNe, true_and, and_true, true_or, or_true, false_or, or_false, and_self, or_self, if_true, if_false, reduceIte, not_true_eq_false, not_false_eq_true, Int.reduceEq, Int.reduceNe, Int.reduceLT, Int.reduceLE, Int.reduceAdd, Int.reduceSub, Int.reduceMul, Int.reduceNeg, Nat.reduceAdd, Nat.reduceLeDiff, Nat.reduceEqDiff, ne_eq, List.length_cons, List.length_nil, Nat.reduceSub, q_isIn, hn]
    exact hQ
end PM
theorem p_made {d : Nat} {V : Hp} (h : Inv0 V) {n k : Int} (hk : k < 2147483648) : Pair V (d + 20) EO_made MO_made [va 1, vi n, vi k] [va 71, vi n, vi k] := pair_of h (fun _ hQ => c_madeC h.q hk hQ) (fun _ _ hH hQ => by rw [show d + 20 = (d + 18) + 2 from rfl, q_madeM]; exact hQ _ hH)
