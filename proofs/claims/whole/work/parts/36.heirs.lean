/-! heirs -/
def payV (V : Hp) (dy : Bool) (k : Nat) : Int := if dy = true then V 105 (12 + k) * V 106 (12 + k) else V 105 (12 + k)
def apS (V : Hp) (b : Nat) (dy : Bool) : Int := w64 (sumI (fun k => sgn (!b.testBit k) (payV V dy k)) (nY V))
def apartS (V : Hp) (b : Int) (dy : Bool) : Int := if (0 ≤ b ∧ b < ((2 ^ nY V : Nat) : Int)) ∧ b % 2 = 0 ∧ nY V ≠ 0 then apS V b.toNat dy else -1000000000000000
def hrP (V : Hp) (b : Nat) : Bool := decide (b % 2 = 0) && (decide (apS V b false = 0) && decide (apS V b true = 0))
def fstF (p : Nat → Bool) : Nat → Option Nat
  | 0 => none
  | m + 1 => match fstF p m with
    | some b => some b
    | none => if p m = true then some m else none
def optI : Option Nat → Int
  | none => -1
  | some b => b
def heirsS (V : Hp) (w : Int) : Int := if (0 ≤ w ∧ w ≤ 1) ∧ nY V ≠ 0 then (if w = 0 then cntF (hrP V) (2 ^ nY V) else optI (fstF (hrP V) (2 ^ nY V))) else -1
theorem pow12 {n : Nat} (h : n ≤ 12) : 2 ^ n ≤ 4096 ∧ 0 < 2 ^ n := ⟨Nat.pow_le_pow_right (by decide) h, Nat.two_pow_pos n⟩
theorem fstF_mono {p : Nat → Bool} {m r b : Nat} (h : fstF p m = some b) (hr : m ≤ r) : fstF p r = some b := by
  induction hr with
  | refl => exact h
  | step _ ih => show (match fstF p _ with | some b => some b | none => _) = _; rw [ih]
theorem cnt_fst {p : Nat → Bool} : ∀ m : Nat, (cntF p m = 0 ↔ fstF p m = none)
  | 0 => ⟨fun _ => rfl, fun _ => rfl⟩
  | m + 1 => by
    have ih := cnt_fst (p := p) m
    have hr := cntF_rng p m
    show cntF p m + (if p m = true then 1 else 0) = 0 ↔ (match fstF p m with | some b => some b | none => if p m = true then some m else none) = none
    cases hf : fstF p m with
    | none =>
      rw [hf] at ih
      have := ih.mpr rfl
      by_cases hp : p m = true
      · simp [hp]; omega
      · simp [hp]; omega
    | some b =>
      rw [hf] at ih
      have : cntF p m ≠ 0 := fun q => by have := ih.mp q; cases this
      simp
      split <;> omega
theorem sgn_not (b : Bool) (x : Int) : sgn (!b) x = - sgn b x := by cases b <;> simp [sgn]
theorem ap_lane (V : Hp) (b : Nat) (dy : Bool) : (w64 (0 + sumI (fun k => sgn (b.testBit k) (payV V dy k)) (nY V)) = 0) = (apS V b dy = 0) := by
  have : ∀ n, sumI (fun k => sgn (!b.testBit k) (payV V dy k)) n = - sumI (fun k => sgn (b.testBit k) (payV V dy k)) n := by
    intro n
    induction n with
    | zero => rfl
    | succ n ih =>
      show sumI (fun k => sgn (!b.testBit k) (payV V dy k)) n + sgn (!b.testBit n) (payV V dy n) = -(sumI (fun k => sgn (b.testBit k) (payV V dy k)) n + sgn (b.testBit n) (payV V dy n))
      rw [ih, sgn_not]; omega
  unfold apS
  rw [this]
  unfold w64
  apply propext
  omega
section HE
variable {d : Nat} {V H : Hp} {Q : AV → Hp → Prop}
def bI (b : Bool) : Int := if b = true then 1 else 0
theorem payV_rng (hM : Inm V) {k : Nat} (hk : k < nY V) (dy : Bool) : 0 ≤ payV V dy k ∧ payV V dy k ≤ 999 * 999 := by
  have b1 := hM.boat.paid k hk
  have b2 := hM.boat.paidOn k hk
  unfold payV
  split
  · exact ⟨Int.mul_nonneg (by omega) b2.1, Int.mul_le_mul b1.2 b2.2 b2.1 (by omega)⟩
  · omega
set_option maxRecDepth 20000 in
theorem q_payment (hI : Inq V) (hH : Vw V H) {k : Nat} (hk : k < nY V) (dy : Bool) : CC d PL_payment [va (V 4 0), vi k, vi (bI dy)] H Q = Q (vl (payV V dy k)) H := by
  refine CC_dt fun Q hQ => ?_
  have hy := hI.boat.y
  have h1 := hI.plan.pays
  have e1 := hI.plan.paid k hk
  have e2 := hI.plan.paidOn k hk
  have hr := payV_rng hI.m hk dy
  have c1 : ¬ (k : Int) < 0 := by omega
  have c2 : (k : Int) < nY V := by omega
  have w1 : w64 (payV V dy k) = payV V dy k := w64_id (by omega) (by omega)
  cases dy with
  | true =>
    have hp : payV V true k = V 105 (12 + k) * V 106 (12 + k) := rfl
    rw [hp] at w1 hQ
    have z : ¬ bI true = 0 := by decide
    have f := hH.f hI.ptr; have g := pl_f hH hI.pp hI.ptr; simp only [en_PL_payment, e_PL_payment_0, k_PL_payment_0, e_PL_payment_1, k_PL_payment_1, e_PL_payment_2, k_PL_payment_2, e_PL_payment_3, k_PL_payment_3, e_PL_payment_4, k_PL_payment_4, rr, sh, Nat.reduceLT, Nat.reduceMul, Int.reduceToNat, Int.reduceGT, Int.reduceGE, Int.reduceNe, true_and, and_true, true_or, or_true, false_or, or_false, and_self, or_self, if_true, if_false, reduceIte, not_true_eq_false, not_false_eq_true, Int.reduceEq, Int.reduceNe, Int.reduceLT, Int.reduceLE, Int.reduceAdd, Int.reduceSub, Int.reduceMul, Int.reduceNeg, Nat.reduceAdd, Nat.reduceLeDiff, Nat.reduceEqDiff, ne_eq, List.length_cons, List.length_nil, Nat.reduceSub, ite10_0, ite10_1, ite10_01, Classical.not_not, f, g, h1, c1, c2, e1, e2, w1, z] <;> clear f g e1 e2 w1
    clear hr hp
    (repeat (refine And.intro (by omega) ?_))
    exact hQ
  | false =>
    have hp : payV V false k = V 105 (12 + k) := rfl
    rw [hp] at hQ
    have z : bI false = 0 := rfl
    have f := hH.f hI.ptr; have g := pl_f hH hI.pp hI.ptr; simp only [en_PL_payment, e_PL_payment_0, k_PL_payment_0, e_PL_payment_1, k_PL_payment_1, e_PL_payment_2, k_PL_payment_2, e_PL_payment_3, k_PL_payment_3, e_PL_payment_4, k_PL_payment_4, rr, sh, Nat.reduceLT, Nat.reduceMul, Int.reduceToNat, Int.reduceGT, Int.reduceGE, Int.reduceNe, true_and, and_true, true_or, or_true, false_or, or_false, and_self, or_self, if_true, if_false, reduceIte, not_true_eq_false, not_false_eq_true, Int.reduceEq, Int.reduceNe, Int.reduceLT, Int.reduceLE, Int.reduceAdd, Int.reduceSub, Int.reduceMul, Int.reduceNeg, Nat.reduceAdd, Nat.reduceLeDiff, Nat.reduceEqDiff, ne_eq, List.length_cons, List.length_nil, Nat.reduceSub, ite10_0, ite10_1, ite10_01, Classical.not_not, f, g, h1, c1, c2, e1, e2, z] <;> clear f g e1 e2
    clear hr hp w1
    (repeat (refine And.intro (by omega) ?_))
    exact hQ
set_option maxRecDepth 20000 in
theorem q_apartBy (hM : Inm V) (hH : Vw V H) {b : Nat} (hb : b < 4096) (dy : Bool) : CC (d + 1) MO_apartBy [va 71, vi b, vi (bI dy)] H Q = Q (vl (apS V b dy)) H := by
  refine CC_dt fun Q hQ => ?_
  have hy := hM.boat.y
  have f := hH.f hM.ptr; simp only [en_MO_apartBy, e_MO_apartBy_0, k_MO_apartBy_0, rr, sh, Nat.reduceLT, Nat.reduceMul, Int.reduceToNat, Int.reduceGT, Int.reduceGE, Int.reduceNe, true_and, and_true, true_or, or_true, false_or, or_false, and_self, or_self, if_true, if_false, reduceIte, not_true_eq_false, not_false_eq_true, Int.reduceEq, Int.reduceNe, Int.reduceLT, Int.reduceLE, Int.reduceAdd, Int.reduceSub, Int.reduceMul, Int.reduceNeg, Nat.reduceAdd, Nat.reduceLeDiff, Nat.reduceEqDiff, ne_eq, List.length_cons, List.length_nil, Nat.reduceSub, ite10_0, ite10_1, ite10_01, Classical.not_not, f] <;> clear f
  (repeat (refine And.intro (by omega) ?_))
  refine up_nat (P := fun k => ∀ x, R (d + 1) MO_apartBy (blk MO_apartBy 1) [va 71, vi b, vi (bI dy), vl (w64 (sumI (fun k => sgn (!b.testBit k) (payV V dy k)) k)), vu, vi k, x, vu] [] H Q) ?_ ?_ 0 (Nat.zero_le (nY V)) vu
  · intro x
    rw [e_MO_apartBy_1]
    have f := hH.f hM.ptr; simp only [k_MO_apartBy_1, e_MO_apartBy_6, k_MO_apartBy_6, en_MO_payments, e_MO_payments_0, k_MO_payments_0, rr, sh, Nat.reduceLT, Nat.reduceMul, Int.reduceToNat, Int.reduceGT, Int.reduceGE, Int.reduceNe, true_and, and_true, true_or, or_true, false_or, or_false, and_self, or_self, if_true, if_false, reduceIte, not_true_eq_false, not_false_eq_true, Int.reduceEq, Int.reduceNe, Int.reduceLT, Int.reduceLE, Int.reduceAdd, Int.reduceSub, Int.reduceMul, Int.reduceNeg, Nat.reduceAdd, Nat.reduceLeDiff, Nat.reduceEqDiff, ne_eq, List.length_cons, List.length_nil, Nat.reduceSub, ite10_0, ite10_1, ite10_01, Classical.not_not, f, hy.1, Int.le_refl] <;> clear f
    exact hQ
  · intro k hk ih x
    have c1 : ¬ (nY V : Int) ≤ k := by omega
    have hr := payV_rng hM hk dy
    have w0 : w32 (12 + (k : Int)) = 12 + k := w32_id (by omega) (by omega)
    have w1 : w32 (payV V dy k) = payV V dy k := w32_id (by omega) (by omega)
    have w2 : w64 (-payV V dy k) = -payV V dy k := w64_id (by omega) (by omega)
    have ih1 := ih (vl (payV V dy k))
    have ea : w64 (w64 (sumI (fun k => sgn (!b.testBit k) (payV V dy k)) k) + sgn (!b.testBit k) (payV V dy k)) = w64 (sumI (fun k => sgn (!b.testBit k) (payV V dy k)) (k + 1)) := by rw [w64_al]; rfl
    rw [← ea] at ih1
    rw [e_MO_apartBy_1]
    clear hr ea hQ ih
    cases dy with
    | true =>
      have hp : payV V true k = V 105 (12 + k) * V 106 (12 + k) := rfl
      rw [hp] at w1 w2 ih1
      have z : ¬ bI true = 0 := by decide
      have f := hH.f hM.ptr; simp only [k_MO_apartBy_1, e_MO_apartBy_2, k_MO_apartBy_2, e_MO_apartBy_3, k_MO_apartBy_3, e_MO_apartBy_4, k_MO_apartBy_4, e_MO_apartBy_5, k_MO_apartBy_5, en_MO_payments, e_MO_payments_0, k_MO_payments_0, rr, sh, Nat.reduceLT, Nat.reduceMul, Int.reduceToNat, Int.reduceGT, Int.reduceGE, Int.reduceNe, true_and, and_true, true_or, or_true, false_or, or_false, and_self, or_self, if_true, if_false, reduceIte, not_true_eq_false, not_false_eq_true, Int.reduceEq, Int.reduceNe, Int.reduceLT, Int.reduceLE, Int.reduceAdd, Int.reduceSub, Int.reduceMul, Int.reduceNeg, Nat.reduceAdd, Nat.reduceLeDiff, Nat.reduceEqDiff, ne_eq, List.length_cons, List.length_nil, Nat.reduceSub, ite10_0, ite10_1, ite10_01, Classical.not_not, f, hy.1, c1, z, b_bit (show b < 2147483648 by omega) (show k < 32 by omega), w0, w1, w2, w32_s (show k < 2147483647 by omega)] <;> clear f w0 w1 w2
      clear hp
      (repeat (refine And.intro (by omega) ?_))
      by_cases hb : b.testBit k = true
      · rw [hb] at ih1; rw [if_neg (fun q => q hb)]; (repeat (refine And.intro (by omega) ?_)); exact ih1
      · simp only [Bool.not_eq_true] at hb; rw [hb] at ih1; rw [if_pos (by simp [hb])]; (repeat (refine And.intro (by omega) ?_)); exact ih1
    | false =>
      have hp : payV V false k = V 105 (12 + k) := rfl
      rw [hp] at w1 w2 ih1
      have z : bI false = 0 := rfl
      have f := hH.f hM.ptr; simp only [k_MO_apartBy_1, e_MO_apartBy_2, k_MO_apartBy_2, e_MO_apartBy_3, k_MO_apartBy_3, e_MO_apartBy_4, k_MO_apartBy_4, e_MO_apartBy_5, k_MO_apartBy_5, en_MO_payments, e_MO_payments_0, k_MO_payments_0, rr, sh, Nat.reduceLT, Nat.reduceMul, Int.reduceToNat, Int.reduceGT, Int.reduceGE, Int.reduceNe, true_and, and_true, true_or, or_true, false_or, or_false, and_self, or_self, if_true, if_false, reduceIte, not_true_eq_false, not_false_eq_true, Int.reduceEq, Int.reduceNe, Int.reduceLT, Int.reduceLE, Int.reduceAdd, Int.reduceSub, Int.reduceMul, Int.reduceNeg, Nat.reduceAdd, Nat.reduceLeDiff, Nat.reduceEqDiff, ne_eq, List.length_cons, List.length_nil, Nat.reduceSub, ite10_0, ite10_1, ite10_01, Classical.not_not, f, hy.1, c1, z, b_bit (show b < 2147483648 by omega) (show k < 32 by omega), w0, w1, w2, w32_s (show k < 2147483647 by omega)] <;> clear f w0 w1 w2
      clear hp
      (repeat (refine And.intro (by omega) ?_))
      by_cases hb : b.testBit k = true
      · rw [hb] at ih1; rw [if_neg (fun q => q hb)]; (repeat (refine And.intro (by omega) ?_)); exact ih1
      · simp only [Bool.not_eq_true] at hb; rw [hb] at ih1; rw [if_pos (by simp [hb])]; (repeat (refine And.intro (by omega) ?_)); exact ih1
end HE
