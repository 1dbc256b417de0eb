/-! heirs: both answers -/
section HE
variable {d : Nat} {V H : Hp} {Q : AV → Hp → Prop}
set_option maxRecDepth 20000 in
theorem c_heirsC (hI : Inq V) (hH : Vw V H) {w : Int} (hQ : ∀ H', Vw V H' → Q (vi (heirsS V w)) H') : CC (d + 3) EO_heirs [va 1, vi w] H Q := by
  have hy := hI.boat.y
  have h1 := hI.plan.pays
  have hsh : shc (V 4 0) = 5 := by rcases hI.pp with h | h <;> rw [h] <;> rfl
  by_cases hw : 0 ≤ w ∧ w ≤ 1
  · have c1 : ¬ w < 0 := by omega
    have c2 : ¬ 1 < w := by omega
    by_cases h0 : nY V = 0
    · have hq := hQ H hH
      unfold heirsS at hq
      rw [if_neg (fun q => q.2 h0)] at hq
      have z : (nY V : Int) = 0 := by omega
      have f := hH.f hI.ptr; have g := pl_f hH hI.pp hI.ptr; simp only [en_EO_heirs, e_EO_heirs_0, k_EO_heirs_0, e_EO_heirs_1, k_EO_heirs_1, rr, sh, Nat.reduceLT, Nat.reduceMul, Int.reduceToNat, Int.reduceGT, Int.reduceGE, Int.reduceNe, true_and, and_true, true_or, or_true, false_or, or_false, and_self, or_self, if_true, if_false, reduceIte, not_true_eq_false, not_false_eq_true, Int.reduceEq, Int.reduceNe, Int.reduceLT, Int.reduceLE, Int.reduceAdd, Int.reduceSub, Int.reduceMul, Int.reduceNeg, Nat.reduceAdd, Nat.reduceLeDiff, Nat.reduceEqDiff, ne_eq, List.length_cons, List.length_nil, Nat.reduceSub, ite10_0, ite10_1, ite10_01, Classical.not_not, f, g, c1, c2, hsh, h1, z] <;> clear f g
      exact hq
    · have z : ¬ (nY V : Int) = 0 := by omega
      have f := hH.f hI.ptr; have g := pl_f hH hI.pp hI.ptr; simp only [en_EO_heirs, e_EO_heirs_0, k_EO_heirs_0, e_EO_heirs_1, k_EO_heirs_1, e_EO_heirs_2, k_EO_heirs_2, rr, sh, Nat.reduceLT, Nat.reduceMul, Int.reduceToNat, Int.reduceGT, Int.reduceGE, Int.reduceNe, true_and, and_true, true_or, or_true, false_or, or_false, and_self, or_self, if_true, if_false, reduceIte, not_true_eq_false, not_false_eq_true, Int.reduceEq, Int.reduceNe, Int.reduceLT, Int.reduceLE, Int.reduceAdd, Int.reduceSub, Int.reduceMul, Int.reduceNeg, Nat.reduceAdd, Nat.reduceLeDiff, Nat.reduceEqDiff, ne_eq, List.length_cons, List.length_nil, Nat.reduceSub, ite10_0, ite10_1, ite10_01, Classical.not_not, f, g, c1, c2, hsh, h1, z] <;> clear f g
      refine c_part hI hH fun H1 hH b3 b4 => ?_
      have hq := hQ H1 hH
      unfold heirsS at hq
      rw [if_pos ⟨hw, h0⟩] at hq
      have f := hH.f hI.ptr; have g := pl_f hH hI.pp hI.ptr; simp only [e_EO_heirs_3, k_EO_heirs_3, e_EO_heirs_4, k_EO_heirs_4, rr, sh, Nat.reduceLT, Nat.reduceMul, Int.reduceToNat, Int.reduceGT, Int.reduceGE, Int.reduceNe, true_and, and_true, true_or, or_true, false_or, or_false, and_self, or_self, if_true, if_false, reduceIte, not_true_eq_false, not_false_eq_true, Int.reduceEq, Int.reduceNe, Int.reduceLT, Int.reduceLE, Int.reduceAdd, Int.reduceSub, Int.reduceMul, Int.reduceNeg, Nat.reduceAdd, Nat.reduceLeDiff, Nat.reduceEqDiff, ne_eq, List.length_cons, List.length_nil, Nat.reduceSub, ite10_0, ite10_1, ite10_01, Classical.not_not, f, g, b3, b4] <;> clear f g
      by_cases hw3 : w = 0
      · rw [if_pos hw3] at hq; rw [if_neg (fun q => q hw3)]; exact hq
      · rw [if_neg hw3] at hq; rw [if_pos hw3]; exact hq
  · have hq := hQ H hH
    unfold heirsS at hq
    rw [if_neg (fun q => hw q.1)] at hq
    by_cases c1 : w < 0
    · have f := hH.f hI.ptr; have g := pl_f hH hI.pp hI.ptr; simp only [en_EO_heirs, e_EO_heirs_0, k_EO_heirs_0, e_EO_heirs_1, k_EO_heirs_1, rr, sh, Nat.reduceLT, Nat.reduceMul, Int.reduceToNat, Int.reduceGT, Int.reduceGE, Int.reduceNe, true_and, and_true, true_or, or_true, false_or, or_false, and_self, or_self, if_true, if_false, reduceIte, not_true_eq_false, not_false_eq_true, Int.reduceEq, Int.reduceNe, Int.reduceLT, Int.reduceLE, Int.reduceAdd, Int.reduceSub, Int.reduceMul, Int.reduceNeg, Nat.reduceAdd, Nat.reduceLeDiff, Nat.reduceEqDiff, ne_eq, List.length_cons, List.length_nil, Nat.reduceSub, ite10_0, ite10_1, ite10_01, Classical.not_not, f, g, c1] <;> clear f g
      exact hq
    · have c2 : 1 < w := by omega
      have f := hH.f hI.ptr; have g := pl_f hH hI.pp hI.ptr; simp only [en_EO_heirs, e_EO_heirs_0, k_EO_heirs_0, e_EO_heirs_1, k_EO_heirs_1, rr, sh, Nat.reduceLT, Nat.reduceMul, Int.reduceToNat, Int.reduceGT, Int.reduceGE, Int.reduceNe, true_and, and_true, true_or, or_true, false_or, or_false, and_self, or_self, if_true, if_false, reduceIte, not_true_eq_false, not_false_eq_true, Int.reduceEq, Int.reduceNe, Int.reduceLT, Int.reduceLE, Int.reduceAdd, Int.reduceSub, Int.reduceMul, Int.reduceNeg, Nat.reduceAdd, Nat.reduceLeDiff, Nat.reduceEqDiff, ne_eq, List.length_cons, List.length_nil, Nat.reduceSub, ite10_0, ite10_1, ite10_01, Classical.not_not, f, g, c1, c2] <;> clear f g
      exact hq
theorem cnt_two {p : Nat → Bool} {k : Nat} (ho : p (2 * k + 1) = false) : cntF p (2 * (k + 1)) = cntF p (2 * k) + if p (2 * k) = true then 1 else 0 := by
  show cntF p (2 * k + 1 + 1) = _
  show cntF p (2 * k) + (if p (2 * k) = true then 1 else 0) + (if p (2 * k + 1) = true then 1 else 0) = _
  rw [ho, if_neg (show ¬ (false = true) by decide), Int.add_zero]
theorem fst_two {p : Nat → Bool} {k : Nat} (ho : p (2 * k + 1) = false) (hn : fstF p (2 * k) = none) (hp : ¬ p (2 * k) = true) : fstF p (2 * (k + 1)) = none := by
  show fstF p (2 * k + 1 + 1) = _
  have h1 : fstF p (2 * k + 1) = none := by
    show (match fstF p (2 * k) with | some b => some b | none => if p (2 * k) = true then some (2 * k) else none) = none
    rw [hn]; exact if_neg hp
  show (match fstF p (2 * k + 1) with | some b => some b | none => if p (2 * k + 1) = true then some (2 * k + 1) else none) = none
  rw [h1]
  exact if_neg (by rw [ho]; decide)
theorem fst_hit {p : Nat → Bool} {k : Nat} (hn : fstF p (2 * k) = none) (hp : p (2 * k) = true) : fstF p (2 * k + 1) = some (2 * k) := by
  show (match fstF p (2 * k) with | some b => some b | none => if p (2 * k) = true then some (2 * k) else none) = _
  rw [hn]; exact if_pos hp
theorem hr_odd (V : Hp) (k : Nat) : hrP V (2 * k + 1) = false := by
  unfold hrP
  rw [show decide ((2 * k + 1) % 2 = 0) = false from decide_eq_false (by omega)]; rfl
theorem hr_even (V : Hp) (k : Nat) : (hrP V (2 * k) = true) = (apS V (2 * k) false = 0 ∧ apS V (2 * k) true = 0) := by
  unfold hrP
  rw [show decide ((2 * k) % 2 = 0) = true from decide_eq_true (by omega)]
  simp
set_option maxRecDepth 20000 in
theorem q_heirsM (hM : Inm V) (hH : Vw V H) {w : Int} : CC (d + 2) MO_heirs [va 71, vi w] H Q = Q (vi (heirsS V w)) H := by
  refine CC_dt fun Q hQ => ?_
  have hy := hM.boat.y
  unfold heirsS at hQ
  by_cases hw : 0 ≤ w ∧ w ≤ 1
  · by_cases h0 : nY V = 0
    · rw [if_neg (fun q => q.2 h0)] at hQ
      have z : (nY V : Int) = 0 := by omega
      have f := hH.f hM.ptr; simp only [en_MO_heirs, e_MO_heirs_0, k_MO_heirs_0, e_MO_heirs_1, k_MO_heirs_1, en_MO_payments, e_MO_payments_0, k_MO_payments_0, rr, sh, Nat.reduceLT, Nat.reduceMul, Int.reduceToNat, Int.reduceGT, Int.reduceGE, Int.reduceNe, true_and, and_true, true_or, or_true, false_or, or_false, and_self, or_self, if_true, if_false, reduceIte, not_true_eq_false, not_false_eq_true, Int.reduceEq, Int.reduceNe, Int.reduceLT, Int.reduceLE, Int.reduceAdd, Int.reduceSub, Int.reduceMul, Int.reduceNeg, Nat.reduceAdd, Nat.reduceLeDiff, Nat.reduceEqDiff, ne_eq, List.length_cons, List.length_nil, Nat.reduceSub, ite10_0, ite10_1, ite10_01, Classical.not_not, f, q_isIn, hw, hy.1, z] <;> clear f
      exact hQ
    · rw [if_pos ⟨hw, h0⟩] at hQ
      have z : ¬ (nY V : Int) = 0 := by omega
      have h2 := pow12 hy.2
      have e0 := one_shl hy.2
      have hev : ∃ P2, 2 ^ nY V = 2 * P2 := ⟨2 ^ (nY V - 1), by rw [← Nat.pow_succ']; congr 1; omega⟩
      obtain ⟨P2, hP2⟩ := hev
      rw [hP2] at h2 e0 hQ
      clear hP2
      have f := hH.f hM.ptr; simp only [en_MO_heirs, e_MO_heirs_0, k_MO_heirs_0, e_MO_heirs_1, k_MO_heirs_1, e_MO_heirs_2, k_MO_heirs_2, en_MO_payments, e_MO_payments_0, k_MO_payments_0, rr, sh, Nat.reduceLT, Nat.reduceMul, Int.reduceToNat, Int.reduceGT, Int.reduceGE, Int.reduceNe, true_and, and_true, true_or, or_true, false_or, or_false, and_self, or_self, if_true, if_false, reduceIte, not_true_eq_false, not_false_eq_true, Int.reduceEq, Int.reduceNe, Int.reduceLT, Int.reduceLE, Int.reduceAdd, Int.reduceSub, Int.reduceMul, Int.reduceNeg, Nat.reduceAdd, Nat.reduceLeDiff, Nat.reduceEqDiff, ne_eq, List.length_cons, List.length_nil, Nat.reduceSub, ite10_0, ite10_1, ite10_01, Classical.not_not, f, q_isIn, hw, hy.1, z] <;> clear f
      have qq : ∀ {b : Nat}, b < 4096 → ∀ {d : Nat} {Q : AV → Hp → Prop}, CC (d + 1) MO_apartBy [va 71, vi b, vi 0] H Q = Q (vl (apS V b false)) H ∧ CC (d + 1) MO_apartBy [va 71, vi b, vi 1] H Q = Q (vl (apS V b true)) H := fun hb => ⟨q_apartBy hM hH hb false, q_apartBy hM hH hb true⟩
      have hk31 : ∀ k, k < P2 → 2 * k < 4096 ∧ ¬ ((2 * P2 : Nat) : Int) ≤ ((2 * k : Nat) : Int) := fun k hk => ⟨by omega, by omega⟩
      have hw32 : ∀ k, k < P2 → w32 (((2 * k : Nat) : Int) + 2) = ((2 * (k + 1) : Nat) : Int) := fun k hk => by rw [w32_id (by omega) (by omega)]; omega
      by_cases hw1 : w = 1
      · subst hw1
        rw [if_neg (by decide)] at hQ
        refine up_nat (P := fun k => fstF (hrP V) (2 * k) = none → R (d + 2) MO_heirs (blk MO_heirs 3) [va 71, vi 1, vi 0, vi ((2 * k : Nat) : Int)] [] H Q) ?_ ?_ 0 (Nat.zero_le P2) rfl
        · intro hf
          rw [hf] at hQ
          rw [e_MO_heirs_3]
          have f := hH.f hM.ptr; simp only [k_MO_heirs_3, e_MO_heirs_7, k_MO_heirs_7, e_MO_heirs_8, k_MO_heirs_8, e_MO_heirs_9, k_MO_heirs_9, en_MO_payments, e_MO_payments_0, k_MO_payments_0, rr, sh, Nat.reduceLT, Nat.reduceMul, Int.reduceToNat, Int.reduceGT, Int.reduceGE, Int.reduceNe, true_and, and_true, true_or, or_true, false_or, or_false, and_self, or_self, if_true, if_false, reduceIte, not_true_eq_false, not_false_eq_true, Int.reduceEq, Int.reduceNe, Int.reduceLT, Int.reduceLE, Int.reduceAdd, Int.reduceSub, Int.reduceMul, Int.reduceNeg, Nat.reduceAdd, Nat.reduceLeDiff, Nat.reduceEqDiff, ne_eq, List.length_cons, List.length_nil, Nat.reduceSub, ite10_0, ite10_1, ite10_01, Classical.not_not, f, hy.1, e0, Int.le_refl] <;> clear f e0
          exact hQ
        · intro k hk ih hf
          obtain ⟨c1, c2⟩ := hk31 k hk
          have e1 := hw32 k hk
          have k1 := hr_even V k
          rw [e_MO_heirs_3]
          have f := hH.f hM.ptr; simp only [k_MO_heirs_3, e_MO_heirs_4, k_MO_heirs_4, e_MO_heirs_5, k_MO_heirs_5, e_MO_heirs_6, k_MO_heirs_6, en_MO_payments, e_MO_payments_0, k_MO_payments_0, rr, sh, Nat.reduceLT, Nat.reduceMul, Int.reduceToNat, Int.reduceGT, Int.reduceGE, Int.reduceNe, true_and, and_true, true_or, or_true, false_or, or_false, and_self, or_self, if_true, if_false, reduceIte, not_true_eq_false, not_false_eq_true, Int.reduceEq, Int.reduceNe, Int.reduceLT, Int.reduceLE, Int.reduceAdd, Int.reduceSub, Int.reduceMul, Int.reduceNeg, Nat.reduceAdd, Nat.reduceLeDiff, Nat.reduceEqDiff, ne_eq, List.length_cons, List.length_nil, Nat.reduceSub, ite10_0, ite10_1, ite10_01, Classical.not_not, f, hy.1, e0, c2, c3_eq, (qq c1).1, (qq c1).2, e1] <;> clear f e0 e1
          by_cases hp : hrP V (2 * k) = true
          · have hp2 := k1.mp hp
            rw [if_neg (fun q => q hp2.1), if_pos hp2.2]
            have := fstF_mono (fst_hit hf hp) (show 2 * k + 1 ≤ 2 * P2 by clear hp2; omega)
            rw [this] at hQ
            exact hQ
          · have hr := ih (fst_two (hr_odd V k) hf hp)
            by_cases p2 : apS V (2 * k) false = 0
            · rw [if_neg (fun q => q p2), if_neg (fun q => hp (k1.mpr ⟨p2, q⟩))]; exact hr
            · rw [if_pos p2]; exact hr
      · have hw0 : w = 0 := by omega
        subst hw0
        rw [if_pos rfl] at hQ
        refine up_nat (P := fun k => R (d + 2) MO_heirs (blk MO_heirs 3) [va 71, vi 0, vi (cntF (hrP V) (2 * k)), vi ((2 * k : Nat) : Int)] [] H Q) ?_ ?_ 0 (Nat.zero_le P2)
        · rw [e_MO_heirs_3]
          have f := hH.f hM.ptr; simp only [k_MO_heirs_3, e_MO_heirs_7, k_MO_heirs_7, e_MO_heirs_8, k_MO_heirs_8, e_MO_heirs_9, k_MO_heirs_9, en_MO_payments, e_MO_payments_0, k_MO_payments_0, rr, sh, Nat.reduceLT, Nat.reduceMul, Int.reduceToNat, Int.reduceGT, Int.reduceGE, Int.reduceNe, true_and, and_true, true_or, or_true, false_or, or_false, and_self, or_self, if_true, if_false, reduceIte, not_true_eq_false, not_false_eq_true, Int.reduceEq, Int.reduceNe, Int.reduceLT, Int.reduceLE, Int.reduceAdd, Int.reduceSub, Int.reduceMul, Int.reduceNeg, Nat.reduceAdd, Nat.reduceLeDiff, Nat.reduceEqDiff, ne_eq, List.length_cons, List.length_nil, Nat.reduceSub, ite10_0, ite10_1, ite10_01, Classical.not_not, f, hy.1, e0, Int.le_refl] <;> clear f e0
          exact hQ
        · intro k hk ih
          obtain ⟨c1, c2⟩ := hk31 k hk
          have e1 := hw32 k hk
          have k1 := hr_even V k
          have w1 : w32 (cntF (hrP V) (2 * k) + 1) = cntF (hrP V) (2 * k) + 1 := by
            have hcr := cntF_rng (hrP V) (2 * k)
            exact w32_id (by clear hQ k1; omega) (by clear hQ k1; omega)
          rw [cnt_two (hr_odd V k)] at ih
          rw [e_MO_heirs_3]
          have f := hH.f hM.ptr; simp only [k_MO_heirs_3, e_MO_heirs_4, k_MO_heirs_4, e_MO_heirs_5, k_MO_heirs_5, e_MO_heirs_6, k_MO_heirs_6, en_MO_payments, e_MO_payments_0, k_MO_payments_0, rr, sh, Nat.reduceLT, Nat.reduceMul, Int.reduceToNat, Int.reduceGT, Int.reduceGE, Int.reduceNe, true_and, and_true, true_or, or_true, false_or, or_false, and_self, or_self, if_true, if_false, reduceIte, not_true_eq_false, not_false_eq_true, Int.reduceEq, Int.reduceNe, Int.reduceLT, Int.reduceLE, Int.reduceAdd, Int.reduceSub, Int.reduceMul, Int.reduceNeg, Nat.reduceAdd, Nat.reduceLeDiff, Nat.reduceEqDiff, ne_eq, List.length_cons, List.length_nil, Nat.reduceSub, ite10_0, ite10_1, ite10_01, Classical.not_not, f, hy.1, e0, c2, c3_eq, (qq c1).1, (qq c1).2, e1, w1] <;> clear f e0 e1 w1
          by_cases hp : hrP V (2 * k) = true
          · have hp2 := k1.mp hp
            rw [if_pos hp] at ih
            rw [if_neg (fun q => q hp2.1), if_pos hp2.2]
            exact ih
          · rw [if_neg hp, Int.add_zero] at ih
            by_cases p2 : apS V (2 * k) false = 0
            · rw [if_neg (fun q => q p2), if_neg (fun q => hp (k1.mpr ⟨p2, q⟩))]; exact ih
            · rw [if_pos p2]; exact ih
  · rw [if_neg (fun q => hw q.1)] at hQ
    have f := hH.f hM.ptr; simp only [en_MO_heirs, e_MO_heirs_0, k_MO_heirs_0, e_MO_heirs_1, k_MO_heirs_1, en_MO_payments, e_MO_payments_0, k_MO_payments_0, rr, sh, Nat.reduceLT, Nat.reduceMul, Int.reduceToNat, Int.reduceGT, Int.reduceGE, Int.reduceNe, true_and, and_true, true_or, or_true, false_or, or_false, and_self, or_self, if_true, if_false, reduceIte, not_true_eq_false, not_false_eq_true, Int.reduceEq, Int.reduceNe, Int.reduceLT, Int.reduceLE, Int.reduceAdd, Int.reduceSub, Int.reduceMul, Int.reduceNeg, Nat.reduceAdd, Nat.reduceLeDiff, Nat.reduceEqDiff, ne_eq, List.length_cons, List.length_nil, Nat.reduceSub, ite10_0, ite10_1, ite10_01, Classical.not_not, f, q_isIn, hw] <;> clear f
    exact hQ
end HE
