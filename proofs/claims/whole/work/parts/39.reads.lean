/-! simple reads, both answers -/
def swingS (V : Hp) (p t : Int) : Int := if (0 ≤ p ∧ p < 4) ∧ 0 ≤ t ∧ t ≤ 9999 then w64 (sww V p.toNat (sdV V) t) else -1000000000000000
def wantS (V : Hp) (p : Int) : Int := if (0 ≤ p ∧ p < 4) ∧ V 100 (4 + p) = 1 then V 101 (4 + p) else -1000000000000000
def sitO (V : Hp) (r : Int) : Nat → Int
  | 0 => -1
  | n + 1 => if sitO V r n = -1 then (if V 107 n = r then (n : Int) else -1) else sitO V r n
def seatS (V : Hp) (s w : Int) : Int := if 0 ≤ s ∧ s < nS V then (if w = 0 then V 92 (12 + s) else if w = 1 then V 93 (12 + s) else if w = 2 then V 107 s else if w = 3 then (if (sdV V).testBit s.toNat = true then 1 else 0) else if w = 4 then (if V 94 (12 + s) = 0 then 0 else 1) else if w = 5 then frc V s.toNat (V 71 47) * V 93 (12 + s) else -1) else -1
def rowerS (V : Hp) (r w : Int) : Int := if 0 ≤ r ∧ r < nR V then (if w = 0 then V 96 (12 + r) else if w = 1 then V 97 (12 + r) else if w = 2 then stg V r (V 71 47) else if w = 3 then sitO V r (nS V) else -1) else -1
theorem sitO_hit {V : Hp} {r : Int} {k n : Nat} (hk : k < n) (h : V 107 k = r) (hb : sitO V r k = -1) : sitO V r n = k := by
  induction n with
  | zero => omega
  | succ n ih =>
    show (if sitO V r n = -1 then (if V 107 n = r then (n : Int) else -1) else sitO V r n) = k
    rcases Nat.lt_or_ge k n with h1 | h1
    · rw [ih h1, if_neg (by omega)]
    · have : k = n := by omega
      subst this
      rw [hb, if_pos rfl, if_pos h]
theorem sitO_no {V : Hp} {r : Int} {k : Nat} (h : ¬ V 107 k = r) (hb : sitO V r k = -1) : sitO V r (k + 1) = -1 := by
  show (if sitO V r k = -1 then (if V 107 k = r then (k : Int) else -1) else sitO V r k) = -1
  rw [hb, if_pos rfl, if_neg h]
section RD
variable {d : Nat} {V H : Hp} {Q : AV → Hp → Prop}
theorem shp (hI : Inq V) : shc (V 4 0) = 5 := by rcases hI.pp with h | h <;> rw [h] <;> rfl
set_option maxRecDepth 20000 in
theorem q_swingC (hI : Inq V) (hH : Vw V H) {p t : Int} : CC (d + 4) EO_swing [va 1, vi p, vi t] H Q = Q (vl (swingS V p t)) H := by
  refine CC_dt fun Q hQ => ?_
  unfold swingS at hQ
  by_cases hp : 0 ≤ p ∧ p < 4
  · obtain ⟨k, rfl⟩ := Int.eq_ofNat_of_zero_le hp.1
    have hk : k < 4 := by omega
    by_cases c1 : t < 0
    · rw [if_neg (by omega)] at hQ
      have f := hH.f hI.ptr; have g := pl_f hH hI.pp hI.ptr; simp only [en_EO_swing, e_EO_swing_0, k_EO_swing_0, e_EO_swing_1, k_EO_swing_1, e_EO_swing_2, k_EO_swing_2, rr, sh, Nat.reduceLT, Nat.reduceMul, Int.reduceToNat, Int.reduceGT, Int.reduceGE, Int.reduceNe, true_and, and_true, true_or, or_true, false_or, or_false, and_self, or_self, if_true, if_false, reduceIte, not_true_eq_false, not_false_eq_true, Int.reduceEq, Int.reduceNe, Int.reduceLT, Int.reduceLE, Int.reduceAdd, Int.reduceSub, Int.reduceMul, Int.reduceNeg, Nat.reduceAdd, Nat.reduceLeDiff, Nat.reduceEqDiff, ne_eq, List.length_cons, List.length_nil, Nat.reduceSub, ite10_0, ite10_1, ite10_01, Classical.not_not, f, g, q_isPower, hp, c1] <;> clear f g
      exact hQ
    · by_cases c2 : t ≤ 9999
      · rw [if_pos (by omega)] at hQ
        have i1 : 0 ≤ t := by omega
        have i2 : t ≤ 100000 := by omega
        have f := hH.f hI.ptr; have g := pl_f hH hI.pp hI.ptr; simp only [en_EO_swing, e_EO_swing_0, k_EO_swing_0, e_EO_swing_1, k_EO_swing_1, e_EO_swing_2, k_EO_swing_2, rr, sh, Nat.reduceLT, Nat.reduceMul, Int.reduceToNat, Int.reduceGT, Int.reduceGE, Int.reduceNe, true_and, and_true, true_or, or_true, false_or, or_false, and_self, or_self, if_true, if_false, reduceIte, not_true_eq_false, not_false_eq_true, Int.reduceEq, Int.reduceNe, Int.reduceLT, Int.reduceLE, Int.reduceAdd, Int.reduceSub, Int.reduceMul, Int.reduceNeg, Nat.reduceAdd, Nat.reduceLeDiff, Nat.reduceEqDiff, ne_eq, List.length_cons, List.length_nil, Nat.reduceSub, ite10_0, ite10_1, ite10_01, Classical.not_not, f, g, q_isPower, hp, c1, c2, q_swingAt hI hH hk i1 i2] <;> clear f g
        exact hQ
      · rw [if_neg (by omega)] at hQ
        have f := hH.f hI.ptr; have g := pl_f hH hI.pp hI.ptr; simp only [en_EO_swing, e_EO_swing_0, k_EO_swing_0, e_EO_swing_1, k_EO_swing_1, e_EO_swing_2, k_EO_swing_2, rr, sh, Nat.reduceLT, Nat.reduceMul, Int.reduceToNat, Int.reduceGT, Int.reduceGE, Int.reduceNe, true_and, and_true, true_or, or_true, false_or, or_false, and_self, or_self, if_true, if_false, reduceIte, not_true_eq_false, not_false_eq_true, Int.reduceEq, Int.reduceNe, Int.reduceLT, Int.reduceLE, Int.reduceAdd, Int.reduceSub, Int.reduceMul, Int.reduceNeg, Nat.reduceAdd, Nat.reduceLeDiff, Nat.reduceEqDiff, ne_eq, List.length_cons, List.length_nil, Nat.reduceSub, ite10_0, ite10_1, ite10_01, Classical.not_not, f, g, q_isPower, hp, c1, c2] <;> clear f g
        exact hQ
  · rw [if_neg (fun q => hp q.1)] at hQ
    have f := hH.f hI.ptr; have g := pl_f hH hI.pp hI.ptr; simp only [en_EO_swing, e_EO_swing_0, k_EO_swing_0, e_EO_swing_1, k_EO_swing_1, e_EO_swing_2, k_EO_swing_2, rr, sh, Nat.reduceLT, Nat.reduceMul, Int.reduceToNat, Int.reduceGT, Int.reduceGE, Int.reduceNe, true_and, and_true, true_or, or_true, false_or, or_false, and_self, or_self, if_true, if_false, reduceIte, not_true_eq_false, not_false_eq_true, Int.reduceEq, Int.reduceNe, Int.reduceLT, Int.reduceLE, Int.reduceAdd, Int.reduceSub, Int.reduceMul, Int.reduceNeg, Nat.reduceAdd, Nat.reduceLeDiff, Nat.reduceEqDiff, ne_eq, List.length_cons, List.length_nil, Nat.reduceSub, ite10_0, ite10_1, ite10_01, Classical.not_not, f, g, q_isPower, hp] <;> clear f g
    exact hQ
set_option maxRecDepth 20000 in
theorem q_swingM (hM : Inm V) (hH : Vw V H) {p t : Int} : CC (d + 3) MO_swing [va 71, vi p, vi t] H Q = Q (vl (swingS V p t)) H := by
  refine CC_dt fun Q hQ => ?_
  have hs := hM.crew.sides
  have hb := sdV_lt hM
  unfold swingS at hQ
  by_cases hp : 0 ≤ p ∧ p ≤ 3
  · obtain ⟨k, rfl⟩ := Int.eq_ofNat_of_zero_le hp.1
    have hk : k < 4 := by omega
    by_cases ht : 0 ≤ t ∧ t ≤ 9999
    · rw [if_pos (by omega)] at hQ
      have i2 : t ≤ 100000 := by omega
      have e1 := hs.1
      have f := hH.f hM.ptr; simp only [en_MO_swing, e_MO_swing_0, k_MO_swing_0, e_MO_swing_1, k_MO_swing_1, e_MO_swing_2, k_MO_swing_2, en_MO_isPower, e_MO_isPower_0, k_MO_isPower_0, rr, sh, Nat.reduceLT, Nat.reduceMul, Int.reduceToNat, Int.reduceGT, Int.reduceGE, Int.reduceNe, true_and, and_true, true_or, or_true, false_or, or_false, and_self, or_self, if_true, if_false, reduceIte, not_true_eq_false, not_false_eq_true, Int.reduceEq, Int.reduceNe, Int.reduceLT, Int.reduceLE, Int.reduceAdd, Int.reduceSub, Int.reduceMul, Int.reduceNeg, Nat.reduceAdd, Nat.reduceLeDiff, Nat.reduceEqDiff, ne_eq, List.length_cons, List.length_nil, Nat.reduceSub, ite10_0, ite10_1, ite10_01, Classical.not_not, f, q_isIn, hp, ht, e1, q_swingBy hM hH hk hb ht.1 i2] <;> clear f e1
      exact hQ
    · rw [if_neg (fun q => ht q.2)] at hQ
      have f := hH.f hM.ptr; simp only [en_MO_swing, e_MO_swing_0, k_MO_swing_0, e_MO_swing_1, k_MO_swing_1, e_MO_swing_2, k_MO_swing_2, en_MO_isPower, e_MO_isPower_0, k_MO_isPower_0, rr, sh, Nat.reduceLT, Nat.reduceMul, Int.reduceToNat, Int.reduceGT, Int.reduceGE, Int.reduceNe, true_and, and_true, true_or, or_true, false_or, or_false, and_self, or_self, if_true, if_false, reduceIte, not_true_eq_false, not_false_eq_true, Int.reduceEq, Int.reduceNe, Int.reduceLT, Int.reduceLE, Int.reduceAdd, Int.reduceSub, Int.reduceMul, Int.reduceNeg, Nat.reduceAdd, Nat.reduceLeDiff, Nat.reduceEqDiff, ne_eq, List.length_cons, List.length_nil, Nat.reduceSub, ite10_0, ite10_1, ite10_01, Classical.not_not, f, q_isIn, hp, ht] <;> clear f
      exact hQ
  · rw [if_neg (by omega)] at hQ
    have f := hH.f hM.ptr; simp only [en_MO_swing, e_MO_swing_0, k_MO_swing_0, e_MO_swing_1, k_MO_swing_1, e_MO_swing_2, k_MO_swing_2, en_MO_isPower, e_MO_isPower_0, k_MO_isPower_0, rr, sh, Nat.reduceLT, Nat.reduceMul, Int.reduceToNat, Int.reduceGT, Int.reduceGE, Int.reduceNe, true_and, and_true, true_or, or_true, false_or, or_false, and_self, or_self, if_true, if_false, reduceIte, not_true_eq_false, not_false_eq_true, Int.reduceEq, Int.reduceNe, Int.reduceLT, Int.reduceLE, Int.reduceAdd, Int.reduceSub, Int.reduceMul, Int.reduceNeg, Nat.reduceAdd, Nat.reduceLeDiff, Nat.reduceEqDiff, ne_eq, List.length_cons, List.length_nil, Nat.reduceSub, ite10_0, ite10_1, ite10_01, Classical.not_not, f, q_isIn, hp] <;> clear f
    exact hQ
set_option maxRecDepth 20000 in
theorem q_offC (hI : Inq V) (hH : Vw V H) : CC (d + 5) EO_off [va 1] H Q = Q (vl (offV V (sdV V) (V 71 47))) H := by
  refine CC_dt fun Q hQ => ?_
  have ht := hI.crew.stroke
  have i2 : V 71 47 ≤ 100000 := by omega
  have e1 := hI.cc.stroke
  have f := hH.f hI.ptr; have g := pl_f hH hI.pp hI.ptr; simp only [en_EO_off, e_EO_off_0, k_EO_off_0, rr, sh, Nat.reduceLT, Nat.reduceMul, Int.reduceToNat, Int.reduceGT, Int.reduceGE, Int.reduceNe, true_and, and_true, true_or, or_true, false_or, or_false, and_self, or_self, if_true, if_false, reduceIte, not_true_eq_false, not_false_eq_true, Int.reduceEq, Int.reduceNe, Int.reduceLT, Int.reduceLE, Int.reduceAdd, Int.reduceSub, Int.reduceMul, Int.reduceNeg, Nat.reduceAdd, Nat.reduceLeDiff, Nat.reduceEqDiff, ne_eq, List.length_cons, List.length_nil, Nat.reduceSub, ite10_0, ite10_1, ite10_01, Classical.not_not, f, g, e1, q_offAt hI hH ht.1 i2] <;> clear f g e1
  exact hQ
set_option maxRecDepth 20000 in
theorem q_offM (hM : Inm V) (hH : Vw V H) : CC (d + 4) MO_off [va 71] H Q = Q (vl (offV V (sdV V) (V 71 47))) H := by
  refine CC_dt fun Q hQ => ?_
  have hb := sdV_lt hM
  have e1 := hM.crew.sides.1
  have f := hH.f hM.ptr; simp only [en_MO_off, e_MO_off_0, k_MO_off_0, rr, sh, Nat.reduceLT, Nat.reduceMul, Int.reduceToNat, Int.reduceGT, Int.reduceGE, Int.reduceNe, true_and, and_true, true_or, or_true, false_or, or_false, and_self, or_self, if_true, if_false, reduceIte, not_true_eq_false, not_false_eq_true, Int.reduceEq, Int.reduceNe, Int.reduceLT, Int.reduceLE, Int.reduceAdd, Int.reduceSub, Int.reduceMul, Int.reduceNeg, Nat.reduceAdd, Nat.reduceLeDiff, Nat.reduceEqDiff, ne_eq, List.length_cons, List.length_nil, Nat.reduceSub, ite10_0, ite10_1, ite10_01, Classical.not_not, f, e1, q_offBy hM hH hb] <;> clear f e1
  exact hQ
set_option maxRecDepth 20000 in
theorem q_goodC (hI : Inq V) (hH : Vw V H) : CC (d + 5) EO_good [va 1] H Q = Q (vi (if goodB V (sdV V) (V 71 47) = true then 1 else 0)) H := by
  refine CC_dt fun Q hQ => ?_
  have ht := hI.crew.stroke
  have i2 : V 71 47 ≤ 100000 := by omega
  have e1 := hI.cc.stroke
  have f := hH.f hI.ptr; have g := pl_f hH hI.pp hI.ptr; simp only [en_EO_good, e_EO_good_0, k_EO_good_0, e_EO_good_1, k_EO_good_1, e_EO_good_2, k_EO_good_2, rr, sh, Nat.reduceLT, Nat.reduceMul, Int.reduceToNat, Int.reduceGT, Int.reduceGE, Int.reduceNe, true_and, and_true, true_or, or_true, false_or, or_false, and_self, or_self, if_true, if_false, reduceIte, not_true_eq_false, not_false_eq_true, Int.reduceEq, Int.reduceNe, Int.reduceLT, Int.reduceLE, Int.reduceAdd, Int.reduceSub, Int.reduceMul, Int.reduceNeg, Nat.reduceAdd, Nat.reduceLeDiff, Nat.reduceEqDiff, ne_eq, List.length_cons, List.length_nil, Nat.reduceSub, ite10_0, ite10_1, ite10_01, Classical.not_not, f, g, e1, q_isGoodAt hI hH ht.1 i2] <;> clear f g e1
  by_cases h : goodB V (sdV V) (V 71 47) = true
  · rw [if_pos h] at hQ; simpa [h] using hQ
  · rw [if_neg h] at hQ; simpa [h] using hQ
set_option maxRecDepth 20000 in
theorem q_goodM (hM : Inm V) (hH : Vw V H) : CC (d + 4) MO_good [va 71] H Q = Q (vi (if goodB V (sdV V) (V 71 47) = true then 1 else 0)) H := by
  refine CC_dt fun Q hQ => ?_
  have hb := sdV_lt hM
  have e1 := hM.crew.sides.1
  have f := hH.f hM.ptr; simp only [en_MO_good, e_MO_good_0, k_MO_good_0, e_MO_good_1, k_MO_good_1, e_MO_good_2, k_MO_good_2, rr, sh, Nat.reduceLT, Nat.reduceMul, Int.reduceToNat, Int.reduceGT, Int.reduceGE, Int.reduceNe, true_and, and_true, true_or, or_true, false_or, or_false, and_self, or_self, if_true, if_false, reduceIte, not_true_eq_false, not_false_eq_true, Int.reduceEq, Int.reduceNe, Int.reduceLT, Int.reduceLE, Int.reduceAdd, Int.reduceSub, Int.reduceMul, Int.reduceNeg, Nat.reduceAdd, Nat.reduceLeDiff, Nat.reduceEqDiff, ne_eq, List.length_cons, List.length_nil, Nat.reduceSub, ite10_0, ite10_1, ite10_01, Classical.not_not, f, e1, q_isGoodM hM hH hb] <;> clear f e1
  by_cases h : goodB V (sdV V) (V 71 47) = true
  · rw [if_pos h] at hQ; simpa [h] using hQ
  · rw [if_neg h] at hQ; simpa [h] using hQ
set_option maxRecDepth 20000 in
theorem q_lawfulC (hI : Inq V) (hH : Vw V H) : CC (d + 2) EO_lawful [va 1] H Q = Q (vi (if lawB V (sdV V) = true then 1 else 0)) H := by
  refine CC_dt fun Q hQ => ?_
  have hb := sdV_lt hI.m
  have z1 := shp hI
  have f := hH.f hI.ptr; have g := pl_f hH hI.pp hI.ptr; simp only [en_EO_lawful, e_EO_lawful_0, k_EO_lawful_0, e_EO_lawful_1, k_EO_lawful_1, e_EO_lawful_2, k_EO_lawful_2, rr, sh, Nat.reduceLT, Nat.reduceMul, Int.reduceToNat, Int.reduceGT, Int.reduceGE, Int.reduceNe, true_and, and_true, true_or, or_true, false_or, or_false, and_self, or_self, if_true, if_false, reduceIte, not_true_eq_false, not_false_eq_true, Int.reduceEq, Int.reduceNe, Int.reduceLT, Int.reduceLE, Int.reduceAdd, Int.reduceSub, Int.reduceMul, Int.reduceNeg, Nat.reduceAdd, Nat.reduceLeDiff, Nat.reduceEqDiff, ne_eq, List.length_cons, List.length_nil, Nat.reduceSub, ite10_0, ite10_1, ite10_01, Classical.not_not, f, g, z1, q_sides hI hH, q_allows hI hH hb] <;> clear f g
  by_cases h : lawB V (sdV V) = true
  · rw [if_pos h] at hQ; simpa [h] using hQ
  · rw [if_neg h] at hQ; simpa [h] using hQ
set_option maxRecDepth 20000 in
theorem q_lawfulM (hM : Inm V) (hH : Vw V H) : CC (d + 3) MO_lawful [va 71] H Q = Q (vi (if lawB V (sdV V) = true then 1 else 0)) H := by
  refine CC_dt fun Q hQ => ?_
  have hb := sdV_lt hM
  have e1 := hM.crew.sides.1
  have f := hH.f hM.ptr; simp only [en_MO_lawful, e_MO_lawful_0, k_MO_lawful_0, e_MO_lawful_1, k_MO_lawful_1, e_MO_lawful_2, k_MO_lawful_2, rr, sh, Nat.reduceLT, Nat.reduceMul, Int.reduceToNat, Int.reduceGT, Int.reduceGE, Int.reduceNe, true_and, and_true, true_or, or_true, false_or, or_false, and_self, or_self, if_true, if_false, reduceIte, not_true_eq_false, not_false_eq_true, Int.reduceEq, Int.reduceNe, Int.reduceLT, Int.reduceLE, Int.reduceAdd, Int.reduceSub, Int.reduceMul, Int.reduceNeg, Nat.reduceAdd, Nat.reduceLeDiff, Nat.reduceEqDiff, ne_eq, List.length_cons, List.length_nil, Nat.reduceSub, ite10_0, ite10_1, ite10_01, Classical.not_not, f, e1, q_isLawful hM hH hb] <;> clear f e1
  by_cases h : lawB V (sdV V) = true
  · rw [if_pos h] at hQ; simpa [h] using hQ
  · rw [if_neg h] at hQ; simpa [h] using hQ
set_option maxRecDepth 20000 in
theorem q_headingC (hI : Inq V) (hH : Vw V H) : CC d EO_heading [va 1] H Q = Q (vl (V 71 48)) H := by
  refine CC_dt fun Q hQ => ?_
  have e1 := hI.cc.heading
  have f := hH.f hI.ptr; have g := pl_f hH hI.pp hI.ptr; simp only [en_EO_heading, e_EO_heading_0, k_EO_heading_0, rr, sh, Nat.reduceLT, Nat.reduceMul, Int.reduceToNat, Int.reduceGT, Int.reduceGE, Int.reduceNe, true_and, and_true, true_or, or_true, false_or, or_false, and_self, or_self, if_true, if_false, reduceIte, not_true_eq_false, not_false_eq_true, Int.reduceEq, Int.reduceNe, Int.reduceLT, Int.reduceLE, Int.reduceAdd, Int.reduceSub, Int.reduceMul, Int.reduceNeg, Nat.reduceAdd, Nat.reduceLeDiff, Nat.reduceEqDiff, ne_eq, List.length_cons, List.length_nil, Nat.reduceSub, ite10_0, ite10_1, ite10_01, Classical.not_not, f, g, e1] <;> clear f g e1
  exact hQ
set_option maxRecDepth 20000 in
theorem q_headingM (hM : Inm V) (hH : Vw V H) : CC d MO_heading [va 71] H Q = Q (vl (V 71 48)) H := by
  refine CC_dt fun Q hQ => ?_
  have f := hH.f hM.ptr; simp only [en_MO_heading, e_MO_heading_0, k_MO_heading_0, rr, sh, Nat.reduceLT, Nat.reduceMul, Int.reduceToNat, Int.reduceGT, Int.reduceGE, Int.reduceNe, true_and, and_true, true_or, or_true, false_or, or_false, and_self, or_self, if_true, if_false, reduceIte, not_true_eq_false, not_false_eq_true, Int.reduceEq, Int.reduceNe, Int.reduceLT, Int.reduceLE, Int.reduceAdd, Int.reduceSub, Int.reduceMul, Int.reduceNeg, Nat.reduceAdd, Nat.reduceLeDiff, Nat.reduceEqDiff, ne_eq, List.length_cons, List.length_nil, Nat.reduceSub, ite10_0, ite10_1, ite10_01, Classical.not_not, f] <;> clear f
  exact hQ
set_option maxRecDepth 20000 in
theorem q_wantC (hI : Inq V) (hH : Vw V H) {p : Int} : CC (d + 1) EO_want [va 1, vi p] H Q = Q (vl (wantS V p)) H := by
  refine CC_dt fun Q hQ => ?_
  have z1 := shp hI
  unfold wantS at hQ
  by_cases hp : 0 ≤ p ∧ p < 4
  · obtain ⟨k, rfl⟩ := Int.eq_ofNat_of_zero_le hp.1
    have e1 := hI.plan.want k (by omega)
    have f := hH.f hI.ptr; have g := pl_f hH hI.pp hI.ptr; simp only [en_EO_want, e_EO_want_0, k_EO_want_0, e_EO_want_1, k_EO_want_1, e_EO_want_2, k_EO_want_2, rr, sh, Nat.reduceLT, Nat.reduceMul, Int.reduceToNat, Int.reduceGT, Int.reduceGE, Int.reduceNe, true_and, and_true, true_or, or_true, false_or, or_false, and_self, or_self, if_true, if_false, reduceIte, not_true_eq_false, not_false_eq_true, Int.reduceEq, Int.reduceNe, Int.reduceLT, Int.reduceLE, Int.reduceAdd, Int.reduceSub, Int.reduceMul, Int.reduceNeg, Nat.reduceAdd, Nat.reduceLeDiff, Nat.reduceEqDiff, ne_eq, List.length_cons, List.length_nil, Nat.reduceSub, ite10_0, ite10_1, ite10_01, Classical.not_not, f, g, q_isPower, hp, z1, e1] <;> clear f g e1
    by_cases h : V 100 (4 + k) = 1
    · rw [if_pos ⟨hp, h⟩] at hQ; rw [if_pos h]; (repeat (refine And.intro (by omega) ?_)); exact hQ
    · rw [if_neg (fun q => h q.2)] at hQ; rw [if_neg h]; (repeat (refine And.intro (by omega) ?_)); exact hQ
  · rw [if_neg (fun q => hp q.1)] at hQ
    have f := hH.f hI.ptr; have g := pl_f hH hI.pp hI.ptr; simp only [en_EO_want, e_EO_want_0, k_EO_want_0, e_EO_want_1, k_EO_want_1, e_EO_want_2, k_EO_want_2, rr, sh, Nat.reduceLT, Nat.reduceMul, Int.reduceToNat, Int.reduceGT, Int.reduceGE, Int.reduceNe, true_and, and_true, true_or, or_true, false_or, or_false, and_self, or_self, if_true, if_false, reduceIte, not_true_eq_false, not_false_eq_true, Int.reduceEq, Int.reduceNe, Int.reduceLT, Int.reduceLE, Int.reduceAdd, Int.reduceSub, Int.reduceMul, Int.reduceNeg, Nat.reduceAdd, Nat.reduceLeDiff, Nat.reduceEqDiff, ne_eq, List.length_cons, List.length_nil, Nat.reduceSub, ite10_0, ite10_1, ite10_01, Classical.not_not, f, g, q_isPower, hp] <;> clear f g
    exact hQ
set_option maxRecDepth 20000 in
theorem q_wantM (hM : Inm V) (hH : Vw V H) {p : Int} : CC (d + 2) MO_want [va 71, vi p] H Q = Q (vl (wantS V p)) H := by
  refine CC_dt fun Q hQ => ?_
  unfold wantS at hQ
  by_cases hp : 0 ≤ p ∧ p ≤ 3
  · have w1 : w32 (4 + p) = 4 + p := w32_id (by omega) (by omega)
    have f := hH.f hM.ptr; simp only [en_MO_want, e_MO_want_0, k_MO_want_0, e_MO_want_1, k_MO_want_1, e_MO_want_2, k_MO_want_2, en_MO_isPower, e_MO_isPower_0, k_MO_isPower_0, en_MO_isWantedOf, e_MO_isWantedOf_0, k_MO_isWantedOf_0, e_MO_isWantedOf_1, k_MO_isWantedOf_1, e_MO_isWantedOf_2, k_MO_isWantedOf_2, rr, sh, Nat.reduceLT, Nat.reduceMul, Int.reduceToNat, Int.reduceGT, Int.reduceGE, Int.reduceNe, true_and, and_true, true_or, or_true, false_or, or_false, and_self, or_self, if_true, if_false, reduceIte, not_true_eq_false, not_false_eq_true, Int.reduceEq, Int.reduceNe, Int.reduceLT, Int.reduceLE, Int.reduceAdd, Int.reduceSub, Int.reduceMul, Int.reduceNeg, Nat.reduceAdd, Nat.reduceLeDiff, Nat.reduceEqDiff, ne_eq, List.length_cons, List.length_nil, Nat.reduceSub, ite10_0, ite10_1, ite10_01, Classical.not_not, f, q_isIn, hp, w1] <;> clear f w1
    (repeat (refine And.intro (by omega) ?_))
    by_cases h : V 100 (4 + p) = 1
    · rw [if_pos ⟨by omega, h⟩] at hQ; rw [if_neg (fun q => q h)]; (repeat (refine And.intro (by omega) ?_)); exact hQ
    · rw [if_neg (fun q => h q.2)] at hQ; rw [if_pos h]; exact hQ
  · rw [if_neg (by omega)] at hQ
    have f := hH.f hM.ptr; simp only [en_MO_want, e_MO_want_0, k_MO_want_0, e_MO_want_1, k_MO_want_1, e_MO_want_2, k_MO_want_2, en_MO_isPower, e_MO_isPower_0, k_MO_isPower_0, en_MO_isWantedOf, e_MO_isWantedOf_0, k_MO_isWantedOf_0, e_MO_isWantedOf_1, k_MO_isWantedOf_1, e_MO_isWantedOf_2, k_MO_isWantedOf_2, rr, sh, Nat.reduceLT, Nat.reduceMul, Int.reduceToNat, Int.reduceGT, Int.reduceGE, Int.reduceNe, true_and, and_true, true_or, or_true, false_or, or_false, and_self, or_self, if_true, if_false, reduceIte, not_true_eq_false, not_false_eq_true, Int.reduceEq, Int.reduceNe, Int.reduceLT, Int.reduceLE, Int.reduceAdd, Int.reduceSub, Int.reduceMul, Int.reduceNeg, Nat.reduceAdd, Nat.reduceLeDiff, Nat.reduceEqDiff, ne_eq, List.length_cons, List.length_nil, Nat.reduceSub, ite10_0, ite10_1, ite10_01, Classical.not_not, f, q_isIn, hp] <;> clear f
    exact hQ
set_option maxRecDepth 20000 in
theorem q_seatOfC (hI : Inq V) (hH : Vw V H) {r : Int} : CC d CW_seatOf [va 4, vi r] H Q = Q (vi (sitO V r (nS V))) H := by
  refine CC_dt fun Q hQ => ?_
  have hn := hI.boat.s
  have h1 := hI.plan.seats
  have z1 := shp hI
  have f := hH.f hI.ptr; have g := pl_f hH hI.pp hI.ptr; simp only [en_CW_seatOf, e_CW_seatOf_0, k_CW_seatOf_0, rr, sh, Nat.reduceLT, Nat.reduceMul, Int.reduceToNat, Int.reduceGT, Int.reduceGE, Int.reduceNe, true_and, and_true, true_or, or_true, false_or, or_false, and_self, or_self, if_true, if_false, reduceIte, not_true_eq_false, not_false_eq_true, Int.reduceEq, Int.reduceNe, Int.reduceLT, Int.reduceLE, Int.reduceAdd, Int.reduceSub, Int.reduceMul, Int.reduceNeg, Nat.reduceAdd, Nat.reduceLeDiff, Nat.reduceEqDiff, ne_eq, List.length_cons, List.length_nil, Nat.reduceSub, ite10_0, ite10_1, ite10_01, Classical.not_not, f, g] <;> clear f g
  (repeat (refine And.intro (by omega) ?_))
  refine up_nat (P := fun k => sitO V r k = -1 → R d CW_seatOf (blk CW_seatOf 1) [va 4, vi r, vi k] [] H Q) ?_ ?_ 0 (Nat.zero_le (nS V)) rfl
  · intro hs
    rw [hs] at hQ
    rw [e_CW_seatOf_1]
    have f := hH.f hI.ptr; have g := pl_f hH hI.pp hI.ptr; simp only [k_CW_seatOf_1, e_CW_seatOf_3, k_CW_seatOf_3, rr, sh, Nat.reduceLT, Nat.reduceMul, Int.reduceToNat, Int.reduceGT, Int.reduceGE, Int.reduceNe, true_and, and_true, true_or, or_true, false_or, or_false, and_self, or_self, if_true, if_false, reduceIte, not_true_eq_false, not_false_eq_true, Int.reduceEq, Int.reduceNe, Int.reduceLT, Int.reduceLE, Int.reduceAdd, Int.reduceSub, Int.reduceMul, Int.reduceNeg, Nat.reduceAdd, Nat.reduceLeDiff, Nat.reduceEqDiff, ne_eq, List.length_cons, List.length_nil, Nat.reduceSub, ite10_0, ite10_1, ite10_01, Classical.not_not, f, g, z1, h1, Int.le_refl] <;> clear f g
    exact hQ
  · intro k hk ih hs
    have c1 : ¬ (nS V : Int) ≤ k := by omega
    have e1 := hI.cc.sits k (by omega)
    have j1 : 0 ≤ (k : Int) ∧ (k : Int) < 12 := by omega
    rw [e_CW_seatOf_1]
    have f := hH.f hI.ptr; have g := pl_f hH hI.pp hI.ptr; simp only [k_CW_seatOf_1, e_CW_seatOf_2, k_CW_seatOf_2, rr, sh, Nat.reduceLT, Nat.reduceMul, Int.reduceToNat, Int.reduceGT, Int.reduceGE, Int.reduceNe, true_and, and_true, true_or, or_true, false_or, or_false, and_self, or_self, if_true, if_false, reduceIte, not_true_eq_false, not_false_eq_true, Int.reduceEq, Int.reduceNe, Int.reduceLT, Int.reduceLE, Int.reduceAdd, Int.reduceSub, Int.reduceMul, Int.reduceNeg, Nat.reduceAdd, Nat.reduceLeDiff, Nat.reduceEqDiff, ne_eq, List.length_cons, List.length_nil, Nat.reduceSub, ite10_0, ite10_1, ite10_01, Classical.not_not, f, g, z1, h1, c1, e1, j1, w32_s (show k < 2147483647 by omega)] <;> clear f g e1
    by_cases h : V 107 k = r
    · rw [sitO_hit hk h hs] at hQ
      rw [if_neg (fun q => q h)]; exact hQ
    · rw [if_pos h]
      exact ih (sitO_no h hs)
set_option maxRecDepth 20000 in
theorem q_seatOfM (hM : Inm V) (hH : Vw V H) {r : Int} : CC (d + 1) MO_seatOf [va 71, vi r] H Q = Q (vi (sitO V r (nS V))) H := by
  refine CC_dt fun Q hQ => ?_
  have hn := hM.boat.s
  have f := hH.f hM.ptr; simp only [en_MO_seatOf, e_MO_seatOf_0, k_MO_seatOf_0, rr, sh, Nat.reduceLT, Nat.reduceMul, Int.reduceToNat, Int.reduceGT, Int.reduceGE, Int.reduceNe, true_and, and_true, true_or, or_true, false_or, or_false, and_self, or_self, if_true, if_false, reduceIte, not_true_eq_false, not_false_eq_true, Int.reduceEq, Int.reduceNe, Int.reduceLT, Int.reduceLE, Int.reduceAdd, Int.reduceSub, Int.reduceMul, Int.reduceNeg, Nat.reduceAdd, Nat.reduceLeDiff, Nat.reduceEqDiff, ne_eq, List.length_cons, List.length_nil, Nat.reduceSub, ite10_0, ite10_1, ite10_01, Classical.not_not, f] <;> clear f
  (repeat (refine And.intro (by omega) ?_))
  refine up_nat (P := fun k => sitO V r k = -1 → R (d + 1) MO_seatOf (blk MO_seatOf 1) [va 71, vi r, vi k] [] H Q) ?_ ?_ 0 (Nat.zero_le (nS V)) rfl
  · intro hs
    rw [hs] at hQ
    rw [e_MO_seatOf_1]
    have f := hH.f hM.ptr; simp only [k_MO_seatOf_1, e_MO_seatOf_3, k_MO_seatOf_3, en_MO_seats, e_MO_seats_0, k_MO_seats_0, rr, sh, Nat.reduceLT, Nat.reduceMul, Int.reduceToNat, Int.reduceGT, Int.reduceGE, Int.reduceNe, true_and, and_true, true_or, or_true, false_or, or_false, and_self, or_self, if_true, if_false, reduceIte, not_true_eq_false, not_false_eq_true, Int.reduceEq, Int.reduceNe, Int.reduceLT, Int.reduceLE, Int.reduceAdd, Int.reduceSub, Int.reduceMul, Int.reduceNeg, Nat.reduceAdd, Nat.reduceLeDiff, Nat.reduceEqDiff, ne_eq, List.length_cons, List.length_nil, Nat.reduceSub, ite10_0, ite10_1, ite10_01, Classical.not_not, f, hn.1, Int.le_refl] <;> clear f
    exact hQ
  · intro k hk ih hs
    have c1 : ¬ (nS V : Int) ≤ k := by omega
    have j1 : 0 ≤ (k : Int) ∧ (k : Int) < 12 := by omega
    rw [e_MO_seatOf_1]
    have f := hH.f hM.ptr; simp only [k_MO_seatOf_1, e_MO_seatOf_2, k_MO_seatOf_2, en_MO_seats, e_MO_seats_0, k_MO_seats_0, rr, sh, Nat.reduceLT, Nat.reduceMul, Int.reduceToNat, Int.reduceGT, Int.reduceGE, Int.reduceNe, true_and, and_true, true_or, or_true, false_or, or_false, and_self, or_self, if_true, if_false, reduceIte, not_true_eq_false, not_false_eq_true, Int.reduceEq, Int.reduceNe, Int.reduceLT, Int.reduceLE, Int.reduceAdd, Int.reduceSub, Int.reduceMul, Int.reduceNeg, Nat.reduceAdd, Nat.reduceLeDiff, Nat.reduceEqDiff, ne_eq, List.length_cons, List.length_nil, Nat.reduceSub, ite10_0, ite10_1, ite10_01, Classical.not_not, f, hn.1, c1, j1, w32_s (show k < 2147483647 by omega)] <;> clear f
    by_cases h : V 107 k = r
    · rw [sitO_hit hk h hs] at hQ
      rw [if_neg (fun q => q h)]; exact hQ
    · rw [if_pos h]
      exact ih (sitO_no h hs)
set_option maxRecDepth 20000 in
theorem q_rowerC (hI : Inq V) (hH : Vw V H) {r w : Int} : CC (d + 2) EO_rower [va 1, vi r, vi w] H Q = Q (vi (rowerS V r w)) H := by
  refine CC_dt fun Q hQ => ?_
  have z1 := shp hI
  have h1 := hI.plan.rowers
  have ht := hI.crew.stroke
  have i2 : V 71 47 ≤ 100000 := by omega
  have e1 := hI.cc.stroke
  unfold rowerS at hQ
  by_cases hr : 0 ≤ r ∧ r < nR V
  · rw [if_pos hr] at hQ
    obtain ⟨k, rfl⟩ := Int.eq_ofNat_of_zero_le hr.1
    have hn := hI.boat.r
    have j1 : 0 ≤ (k : Int) ∧ (k : Int) < 12 := by omega
    have e2 := hI.plan.str k (by omega)
    have e3 := hI.plan.tire k (by omega)
    have f := hH.f hI.ptr; have g := pl_f hH hI.pp hI.ptr; simp only [en_EO_rower, e_EO_rower_0, k_EO_rower_0, e_EO_rower_1, k_EO_rower_1, e_EO_rower_2, k_EO_rower_2, e_EO_rower_3, k_EO_rower_3, e_EO_rower_4, k_EO_rower_4, e_EO_rower_5, k_EO_rower_5, e_EO_rower_6, k_EO_rower_6, rr, sh, Nat.reduceLT, Nat.reduceMul, Int.reduceToNat, Int.reduceGT, Int.reduceGE, Int.reduceNe, true_and, and_true, true_or, or_true, false_or, or_false, and_self, or_self, if_true, if_false, reduceIte, not_true_eq_false, not_false_eq_true, Int.reduceEq, Int.reduceNe, Int.reduceLT, Int.reduceLE, Int.reduceAdd, Int.reduceSub, Int.reduceMul, Int.reduceNeg, Nat.reduceAdd, Nat.reduceLeDiff, Nat.reduceEqDiff, ne_eq, List.length_cons, List.length_nil, Nat.reduceSub, ite10_0, ite10_1, ite10_01, Classical.not_not, f, g, z1, q_isRower, h1, hr, RSW_c, RSW_n, e1, e2, e3, j1, q_strengthAt hI hH ht.1 i2, q_seatOfC hI hH] <;> clear f g e1 e2 e3
    by_cases w0 : w = 0
    · subst w0; simpa using hQ
    · by_cases w1 : w = 1
      · subst w1; simpa using hQ
      · by_cases w2 : w = 2
        · subst w2; simpa using hQ
        · by_cases w3 : w = 3
          · subst w3; simpa using hQ
          · simpa [w0, w1, w2, w3] using hQ
  · rw [if_neg hr] at hQ
    have f := hH.f hI.ptr; have g := pl_f hH hI.pp hI.ptr; simp only [en_EO_rower, e_EO_rower_0, k_EO_rower_0, e_EO_rower_1, k_EO_rower_1, e_EO_rower_2, k_EO_rower_2, e_EO_rower_3, k_EO_rower_3, e_EO_rower_4, k_EO_rower_4, e_EO_rower_5, k_EO_rower_5, e_EO_rower_6, k_EO_rower_6, rr, sh, Nat.reduceLT, Nat.reduceMul, Int.reduceToNat, Int.reduceGT, Int.reduceGE, Int.reduceNe, true_and, and_true, true_or, or_true, false_or, or_false, and_self, or_self, if_true, if_false, reduceIte, not_true_eq_false, not_false_eq_true, Int.reduceEq, Int.reduceNe, Int.reduceLT, Int.reduceLE, Int.reduceAdd, Int.reduceSub, Int.reduceMul, Int.reduceNeg, Nat.reduceAdd, Nat.reduceLeDiff, Nat.reduceEqDiff, ne_eq, List.length_cons, List.length_nil, Nat.reduceSub, ite10_0, ite10_1, ite10_01, Classical.not_not, f, g, z1, q_isRower, h1, hr] <;> clear f g
    exact hQ
set_option maxRecDepth 20000 in
theorem q_rowerM (hM : Inm V) (hH : Vw V H) {r w : Int} : CC (d + 2) MO_rower [va 71, vi r, vi w] H Q = Q (vi (rowerS V r w)) H := by
  refine CC_dt fun Q hQ => ?_
  have ht := hM.crew.stroke
  have hn := hM.boat.r
  have i2 : V 71 47 ≤ 100000 := by omega
  have w9 : w32 ((nR V : Int) - 1) = nR V - 1 := w32_id (by omega) (by omega)
  unfold rowerS at hQ
  by_cases hr : 0 ≤ r ∧ r ≤ (nR V : Int) - 1
  · have hr2 : 0 ≤ r ∧ r < nR V := by omega
    rw [if_pos hr2] at hQ
    have j1 : (0 ≤ 12 + r) ∧ 12 + r < 24 := by omega
    have w8 : w32 (12 + r) = 12 + r := w32_id (by omega) (by omega)
    have f := hH.f hM.ptr; simp only [en_MO_rower, e_MO_rower_0, k_MO_rower_0, e_MO_rower_1, k_MO_rower_1, e_MO_rower_2, k_MO_rower_2, e_MO_rower_3, k_MO_rower_3, e_MO_rower_4, k_MO_rower_4, e_MO_rower_5, k_MO_rower_5, e_MO_rower_6, k_MO_rower_6, en_MO_isRower, e_MO_isRower_0, k_MO_isRower_0, en_MO_rowers, e_MO_rowers_0, k_MO_rowers_0, rr, sh, Nat.reduceLT, Nat.reduceMul, Int.reduceToNat, Int.reduceGT, Int.reduceGE, Int.reduceNe, true_and, and_true, true_or, or_true, false_or, or_false, and_self, or_self, if_true, if_false, reduceIte, not_true_eq_false, not_false_eq_true, Int.reduceEq, Int.reduceNe, Int.reduceLT, Int.reduceLE, Int.reduceAdd, Int.reduceSub, Int.reduceMul, Int.reduceNeg, Nat.reduceAdd, Nat.reduceLeDiff, Nat.reduceEqDiff, ne_eq, List.length_cons, List.length_nil, Nat.reduceSub, ite10_0, ite10_1, ite10_01, Classical.not_not, f, q_isIn, hn.1, w9, hr, RSW_c, RSW_n, w8, j1, q_strengthAtM hM hH hr2 ht.1 i2, q_seatOfM hM hH] <;> clear f w9 w8
    by_cases w0 : w = 0
    · subst w0; simpa using hQ
    · by_cases w1 : w = 1
      · subst w1; simpa using hQ
      · by_cases w2 : w = 2
        · subst w2; simpa using hQ
        · by_cases w3 : w = 3
          · subst w3; simpa using hQ
          · simpa [w0, w1, w2, w3] using hQ
  · rw [if_neg (by omega)] at hQ
    have f := hH.f hM.ptr; simp only [en_MO_rower, e_MO_rower_0, k_MO_rower_0, e_MO_rower_1, k_MO_rower_1, e_MO_rower_2, k_MO_rower_2, e_MO_rower_3, k_MO_rower_3, e_MO_rower_4, k_MO_rower_4, e_MO_rower_5, k_MO_rower_5, e_MO_rower_6, k_MO_rower_6, en_MO_isRower, e_MO_isRower_0, k_MO_isRower_0, en_MO_rowers, e_MO_rowers_0, k_MO_rowers_0, rr, sh, Nat.reduceLT, Nat.reduceMul, Int.reduceToNat, Int.reduceGT, Int.reduceGE, Int.reduceNe, true_and, and_true, true_or, or_true, false_or, or_false, and_self, or_self, if_true, if_false, reduceIte, not_true_eq_false, not_false_eq_true, Int.reduceEq, Int.reduceNe, Int.reduceLT, Int.reduceLE, Int.reduceAdd, Int.reduceSub, Int.reduceMul, Int.reduceNeg, Nat.reduceAdd, Nat.reduceLeDiff, Nat.reduceEqDiff, ne_eq, List.length_cons, List.length_nil, Nat.reduceSub, ite10_0, ite10_1, ite10_01, Classical.not_not, f, q_isIn, hn.1, w9, hr] <;> clear f w9
    exact hQ
end RD
