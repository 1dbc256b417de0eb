/-! strengths: the class's steps -/
def sTR (a b : Int) : Bool := if a = 58 then (decide (b = 7) || decide (b = 8)) else if a = 59 then true else if a = 60 then true else if a = 61 then true else if a = 62 then true else if a = 63 then true else if a = 64 then true else if a = 65 then true else false
def TrS (V H : Hp) (gp : Nat → Int) : Prop := Fx sTR V H ∧ (∀ r : Nat, r < nU V → H 59 r = gp r) ∧ (∀ r k : Nat, r < nU V → k < nR V → H 61 ((6 * r + k : Nat) : Int) = aTr V r k) ∧ ∀ r k : Nat, r < nU V → k ≤ nR V → H 62 ((7 * r + k : Nat) : Int) = loB V r k (nR V - k) ∧ H 63 ((7 * r + k : Nat) : Int) = hiB V r k (nR V - k)
def gB (V : Hp) (gp : Nat → Int) (k : Nat) : Prop := ∀ r, r < nU V → -(100000 + 9 * k * bX) ≤ gp r ∧ gp r ≤ 100000 + 9 * k * bX
theorem gB_up {V : Hp} (hM : Inm V) {gp : Nat → Int} {k : Nat} (h : gB V gp k) {x : Int} (hx : 0 ≤ x ∧ x ≤ 9) (q : Nat) : gB V (stG2 V gp q x) (k + 1) := fun r hr => by
  have h1 := h r hr
  have ha := aTr_rng hM (k := q) hr
  unfold stG2
  have e : (9 : Int) * ((k + 1 : Nat) : Int) * bX = 9 * (k : Int) * bX + 9 * bX := by push_cast; grind
  have hb : -(9 * bX) ≤ aTr V r q * x ∧ aTr V r q * x ≤ 9 * bX := by
    generalize aTr V r q = a at ha ⊢
    obtain ⟨n, rfl⟩ := Int.eq_ofNat_of_zero_le hx.1
    have : n = 0 ∨ n = 1 ∨ n = 2 ∨ n = 3 ∨ n = 4 ∨ n = 5 ∨ n = 6 ∨ n = 7 ∨ n = 8 ∨ n = 9 := by omega
    unfold bX at ha ⊢
    rcases this with rfl | rfl | rfl | rfl | rfl | rfl | rfl | rfl | rfl | rfl <;> omega
  rw [e]
  generalize aTr V r q * x = y at hb ⊢
  generalize 9 * (k : Int) * bX = z at h1 ⊢
  omega
theorem xor_neg {x y : Int} (hx : -9223372036854775808 ≤ x ∧ x < 9223372036854775808) (hy : 0 < y ∧ y < 9223372036854775808) : (l_xor x y < 0) = (x < 0) := by
  have ex : (Int64.ofInt x).toBitVec.toInt = x := by
    show (Int64.ofInt x).toInt = x
    exact toInt_ofInt64 (decide_eq_true hx)
  have ey : (Int64.ofInt y).toBitVec.toInt = y := by
    show (Int64.ofInt y).toInt = y
    exact toInt_ofInt64 (decide_eq_true ⟨by omega, hy.2⟩)
  have h1 : (Int64.ofInt x).toBitVec.msb = decide (x < 0) := by rw [BitVec.msb_eq_toInt, ex]
  have h2 : (Int64.ofInt y).toBitVec.msb = false := by rw [BitVec.msb_eq_toInt, ey]; exact decide_eq_false (by omega)
  have h3 : ((Int64.ofInt x ^^^ Int64.ofInt y).toBitVec).msb = decide (l_xor x y < 0) := by rw [BitVec.msb_eq_toInt]; rfl
  rw [Int64.toBitVec_xor, BitVec.msb_xor, h1, h2, Bool.xor_false] at h3
  have := decide_eq_decide.mp h3
  exact propext this.symm
section TR
variable {d : Nat} {V H : Hp} {Q : AV → Hp → Prop}
theorem q_floorDiv {x y : Int} (hx : -9000000000000000000 ≤ x ∧ x ≤ 9000000000000000000) (hy : 0 < y ∧ y ≤ 9000000000000000000) : CC d JK_floorDiv [vl x, vl y] H Q = Q (vl (x / y)) H := by
  refine CC_dt fun Q hQ => ?_
  have hxn := xor_neg (x := x) (y := y) (by omega) (by omega)
  have hy0 : ¬ y = 0 := by omega
  have hq : -9000000000000000000 ≤ x.tdiv y ∧ x.tdiv y ≤ 9000000000000000000 ∧ (0 ≤ x → x.tdiv y = x / y) ∧ (x < 0 → (x.tdiv y * y = x → x / y = x.tdiv y) ∧ (¬ x.tdiv y * y = x → x / y = x.tdiv y - 1)) ∧ (-9000000000000000000 ≤ x.tdiv y * y ∧ x.tdiv y * y ≤ 9000000000000000000) := by
    have e1 := Int.mul_tdiv_add_tmod x y
    by_cases c : 0 ≤ x
    · have e2 : x.tdiv y = x / y := Int.tdiv_eq_ediv_of_nonneg c
      have e3 := Int.ediv_mul_le x hy0
      have e4 := Int.ediv_nonneg c (Int.le_of_lt hy.1)
      have e5 := Int.ediv_le_self y c
      have e6 := Int.mul_nonneg e4 (Int.le_of_lt hy.1)
      rw [e2]
      refine ⟨by omega, by omega, fun _ => rfl, fun z => absurd z (by omega), by omega, by omega⟩
    · obtain ⟨m, hm⟩ : ∃ m, m = -x := ⟨_, rfl⟩
      have hm0 : 0 ≤ m := by omega
      have e2 : x.tdiv y = -(m / y) := by rw [show x = -m by omega, Int.neg_tdiv, Int.tdiv_eq_ediv_of_nonneg hm0]
      have e3 := Int.ediv_mul_le m hy0
      have e4 := Int.ediv_nonneg hm0 (Int.le_of_lt hy.1)
      have e5 := Int.ediv_le_self y hm0
      have e6 := Int.mul_nonneg e4 (Int.le_of_lt hy.1)
      have e7 := Int.lt_ediv_add_one_mul_self m hy.1
      rw [e2, Int.neg_mul]
      refine ⟨by omega, by omega, fun z => absurd z (by omega), fun _ => ⟨fun z => ?_, fun z => ?_⟩, by omega, by omega⟩
      · have hx2 : x = -(m / y) * y := by rw [Int.neg_mul]; omega
        have h9 := Int.mul_ediv_cancel (-(m / y)) hy0
        rw [← hx2] at h9
        exact h9
      · have h1 : (-(m / y) - 1) * y ≤ x ∧ x < (-(m / y) - 1 + 1) * y := by
          have a1 : (-(m / y) - 1) * y = -(m / y * y) - y := by grind
          have a2 : (-(m / y) - 1 + 1) * y = -(m / y * y) := by grind
          have a3 : (m / y + 1) * y = m / y * y + y := by grind
          rw [a1, a2]
          rw [a3] at e7
          generalize m / y * y = u at *
          omega
        have h2 := (Int.le_ediv_iff_mul_le hy.1).mpr h1.1
        have h3 := (Int.ediv_lt_iff_lt_mul hy.1).mpr h1.2
        omega
  obtain ⟨q1, q2, q3, q4, q5⟩ := hq
  have w1 : w64 (x.tdiv y) = x.tdiv y := w64_id (by clear q3 q4 q5 hxn; omega) (by clear q3 q4 q5 hxn; omega)
  have w2 : w64 (x.tdiv y * y) = x.tdiv y * y := by
    generalize x.tdiv y * y = u at q5 ⊢
    exact w64_id (by clear q3 q4 hxn w1; omega) (by clear q3 q4 hxn w1; omega)
  have w3 : w64 (x.tdiv y - 1) = x.tdiv y - 1 := w64_id (by clear q3 q4 q5 hxn w1 w2; omega) (by clear q3 q4 q5 hxn w1 w2; omega)
  by_cases c : x < 0
  · have cx : ¬ 0 ≤ l_xor x y := fun z => by rw [← hxn] at c; exact absurd c (Int.not_lt.mpr z)
    by_cases c2 : x.tdiv y * y = x
    · rw [(q4 c).1 c2] at hQ
      have w4 : w64 x = x := by rw [c2] at w2; exact w2
      simp only [en_JK_floorDiv, e_JK_floorDiv_0, k_JK_floorDiv_0, e_JK_floorDiv_1, k_JK_floorDiv_1, rr, sh, Nat.reduceLT, Nat.reduceMul, Int.reduceToNat, Int.reduceGT, Int.reduceGE, Int.reduceNe, true_and, and_true, true_or, or_true, false_or, or_false, and_self, or_self, if_true, if_false, reduceIte, not_true_eq_false, not_false_eq_true, Int.reduceEq, Int.reduceNe, Int.reduceLT, Int.reduceLE, Int.reduceAdd, Int.reduceSub, Int.reduceMul, Int.reduceNeg, Nat.reduceAdd, Nat.reduceLeDiff, Nat.reduceEqDiff, ne_eq, List.length_cons, List.length_nil, Nat.reduceSub, hy0, w1, c3_ge, cx, w4, c3_eq, c2]
      exact hQ
    · rw [(q4 c).2 c2] at hQ
      simp only [en_JK_floorDiv, e_JK_floorDiv_0, k_JK_floorDiv_0, e_JK_floorDiv_1, k_JK_floorDiv_1, rr, sh, Nat.reduceLT, Nat.reduceMul, Int.reduceToNat, Int.reduceGT, Int.reduceGE, Int.reduceNe, true_and, and_true, true_or, or_true, false_or, or_false, and_self, or_self, if_true, if_false, reduceIte, not_true_eq_false, not_false_eq_true, Int.reduceEq, Int.reduceNe, Int.reduceLT, Int.reduceLE, Int.reduceAdd, Int.reduceSub, Int.reduceMul, Int.reduceNeg, Nat.reduceAdd, Nat.reduceLeDiff, Nat.reduceEqDiff, ne_eq, List.length_cons, List.length_nil, Nat.reduceSub, hy0, w1, c3_ge, cx, w2, c3_eq, c2, w3]
      exact hQ
  · have cx : 0 ≤ l_xor x y := Int.not_lt.mp (fun z => c (by rw [← hxn]; exact z))
    rw [← q3 (Int.not_lt.mp c)] at hQ
    simp only [en_JK_floorDiv, e_JK_floorDiv_0, k_JK_floorDiv_0, e_JK_floorDiv_1, k_JK_floorDiv_1, rr, sh, Nat.reduceLT, Nat.reduceMul, Int.reduceToNat, Int.reduceGT, Int.reduceGE, Int.reduceNe, true_and, and_true, true_or, or_true, false_or, or_false, and_self, or_self, if_true, if_false, reduceIte, not_true_eq_false, not_false_eq_true, Int.reduceEq, Int.reduceNe, Int.reduceLT, Int.reduceLE, Int.reduceAdd, Int.reduceSub, Int.reduceMul, Int.reduceNeg, Nat.reduceAdd, Nat.reduceLeDiff, Nat.reduceEqDiff, ne_eq, List.length_cons, List.length_nil, Nat.reduceSub, hy0, w1, c3_ge, cx]
    exact hQ
theorem trF (hI : Inq V) (hS : Fx sTR V H) : H 58 0 = 59 ∧ H 58 2 = 61 ∧ H 58 3 = 62 ∧ H 58 4 = 63 ∧ H 58 5 = 64 ∧ H 58 6 = 65 ∧ H (V 4 0) 6 = nR V ∧ H (V 4 0) 12 = V 99 1 ∧ H (V 4 0) 13 = nU V := by
  have hp : H (V 4 0) = V (V 4 0) := by rcases hI.pp with e | e <;> rw [e] <;> exact hS.cell _ (fun _ => rfl)
  refine ⟨(hS 58 0 rfl).trans (hI.ptr (58, 0, 59) (by decide +kernel)), (hS 58 2 rfl).trans (hI.ptr (58, 2, 61) (by decide +kernel)), (hS 58 3 rfl).trans (hI.ptr (58, 3, 62) (by decide +kernel)), (hS 58 4 rfl).trans (hI.ptr (58, 4, 63) (by decide +kernel)), (hS 58 5 rfl).trans (hI.ptr (58, 5, 64) (by decide +kernel)), (hS 58 6 rfl).trans (hI.ptr (58, 6, 65) (by decide +kernel)), ?_, ?_, ?_⟩
  · rw [hp]; exact hI.plan.rowers
  · rw [hp]; exact hI.plan.near
  · rw [hp]; exact hI.plan.runs
/-- least and greatest with one note more -/
def ntS (H : Hp) (q : Nat) (lo hi : Int) : Hp := hs (hs H 64 q (min (H 64 q) lo)) 65 q (max (H 65 q) hi)
theorem q_note (hI : Inq V) (hS : Fx sTR V H) {q : Nat} (hq : q < 6) {lo hi : Int} : CC (d + 1) TR_noteStrengths [va 58, vi q, vi lo, vi hi] H Q = Q vu (ntS H q lo hi) := by
  refine CC_dt fun Q hQ => ?_
  have c1 : ¬ (q : Int) < 0 := by omega
  have c2 : ¬ (6 : Int) ≤ q := by omega
  have jq : 0 ≤ (q : Int) ∧ (q : Int) < 6 := by omega
  obtain ⟨f1, f2, f3, f4, f5, f6, -⟩ := trF hI hS
  have y6 : ∀ v, hs H 64 q v 58 6 = 65 := fun v => (hs_ne' (by decide)).trans f6
  have y65 : ∀ v, hs H 64 q v 65 q = H 65 q := fun v => hs_ne' (by decide)
  simp only [en_TR_noteStrengths, e_TR_noteStrengths_0, k_TR_noteStrengths_0, e_TR_noteStrengths_1, k_TR_noteStrengths_1, rr, sh, Nat.reduceLT, Nat.reduceMul, Int.reduceToNat, Int.reduceGT, Int.reduceGE, Int.reduceNe, true_and, and_true, true_or, or_true, false_or, or_false, and_self, or_self, if_true, if_false, reduceIte, not_true_eq_false, not_false_eq_true, Int.reduceEq, Int.reduceNe, Int.reduceLT, Int.reduceLE, Int.reduceAdd, Int.reduceSub, Int.reduceMul, Int.reduceNeg, Nat.reduceAdd, Nat.reduceLeDiff, Nat.reduceEqDiff, ne_eq, List.length_cons, List.length_nil, Nat.reduceSub, c1, c2, jq, f5, q_minI, q_maxI, y6, y65]
  exact hQ
theorem TrS.nt {gp : Nat → Int} (h : TrS V H gp) {q : Nat} {lo hi : Int} : TrS V (ntS H q lo hi) gp := by
  obtain ⟨h1, h2, h3, h4⟩ := h
  refine ⟨(h1.hs (c := 64) rfl).hs (c := 65) rfl, fun r hr => ?_, fun r k hr hk => ?_, fun r k hr hk => ?_⟩
  · unfold ntS; rw [hs_ne' (by decide), hs_ne' (by decide)]; exact h2 r hr
  · unfold ntS; rw [hs_ne' (by decide), hs_ne' (by decide)]; exact h3 r k hr hk
  · unfold ntS; rw [hs_ne' (by decide), hs_ne' (by decide), hs_ne' (by decide), hs_ne' (by decide)]; exact h4 r k hr hk
theorem ntS_at {q p : Nat} {lo hi : Int} : ntS H q lo hi 64 p = (if p = q then min (H 64 q) lo else H 64 p) ∧ ntS H q lo hi 65 p = if p = q then max (H 65 q) hi else H 65 p := by
  unfold ntS
  rw [hs_ne' (by decide), hs_at, hs_at, hs_ne' (by decide)]
  simp only [Int.ofNat_inj, true_and]
set_option maxRecDepth 20000 in
theorem c_tryMore (hI : Inq V) {gp : Nat → Int} (hT : TrS V H gp) (hnR : nR V ≤ 6) {k : Nat} (hk : k < nR V) {x : Int} (hB : ∀ r, r < nU V → -90000000000 ≤ gp r ∧ gp r ≤ 90000000000) (hx : -9 ≤ x ∧ x ≤ 9) (hQ : ∀ H', TrS V H' (stG2 V gp k x) → H' 64 = H 64 → H' 65 = H 65 → Q vu H') : CC d TR_tryMore [va 58, va (V 4 0), vi k, vi x] H Q := by
  have hu := hI.boat.u
  have z1 := shp hI
  obtain ⟨h1, h2, h3, h4⟩ := hT
  simp only [en_TR_tryMore, e_TR_tryMore_0, k_TR_tryMore_0, rr, sh, Nat.reduceLT, Nat.reduceMul, Int.reduceToNat, Int.reduceGT, Int.reduceGE, Int.reduceNe, true_and, and_true, true_or, or_true, false_or, or_false, and_self, or_self, if_true, if_false, reduceIte, not_true_eq_false, not_false_eq_true, Int.reduceEq, Int.reduceNe, Int.reduceLT, Int.reduceLE, Int.reduceAdd, Int.reduceSub, Int.reduceMul, Int.reduceNeg, Nat.reduceAdd, Nat.reduceLeDiff, Nat.reduceEqDiff, ne_eq, List.length_cons, List.length_nil, Nat.reduceSub]
  refine up_nat (P := fun r => ∀ H', Fx sTR V H' → (∀ r' : Nat, r' < nU V → H' 59 r' = if r' < r then stG2 V gp k x r' else gp r') → H' 61 = H 61 → H' 62 = H 62 → H' 63 = H 63 → H' 64 = H 64 → H' 65 = H 65 → R d TR_tryMore (blk TR_tryMore 1) [va 58, va (V 4 0), vi k, vi x, vi r] [] H' Q) ?_ ?_ 0 (Nat.zero_le (nU V)) H h1 (fun r' hr' => by rw [if_neg (Nat.not_lt_zero r')]; exact h2 r' hr') rfl rfl rfl rfl rfl
  · intro H' a1 a2 a61 a62 a63 a64 a65
    rw [e_TR_tryMore_1]
    simp only [k_TR_tryMore_1, e_TR_tryMore_2, k_TR_tryMore_2, rr, sh, Nat.reduceLT, Nat.reduceMul, Int.reduceToNat, Int.reduceGT, Int.reduceGE, Int.reduceNe, true_and, and_true, true_or, or_true, false_or, or_false, and_self, or_self, if_true, if_false, reduceIte, not_true_eq_false, not_false_eq_true, Int.reduceEq, Int.reduceNe, Int.reduceLT, Int.reduceLE, Int.reduceAdd, Int.reduceSub, Int.reduceMul, Int.reduceNeg, Nat.reduceAdd, Nat.reduceLeDiff, Nat.reduceEqDiff, ne_eq, List.length_cons, List.length_nil, Nat.reduceSub, z1, (trF hI a1).2.2.2.2.2.2.2.2, Int.le_refl]
    refine hQ H' ⟨a1, fun r hr => ?_, fun r k hr hk => by rw [a61]; exact h3 r k hr hk, fun r k hr hk => by rw [a62, a63]; exact h4 r k hr hk⟩ a64 a65
    have := a2 r hr
    rw [if_pos hr] at this
    exact this
  · intro r hr ih H' a1 a2 a61 a62 a63 a64 a65
    have c1 : ¬ (nU V : Int) ≤ r := by clear ih a2 hQ h2 h3 h4 z1 hB; omega
    have jr : 0 ≤ (r : Int) ∧ (r : Int) < 8 := by clear ih a2 hQ h2 h3 h4 z1 hB; omega
    have kr := w32_s (n := r) (by clear ih a2 hQ h2 h3 h4 z1 hB; omega)
    have wi : w32 (w32 ((r : Int) * 6) + k) = ((6 * r + k : Nat) : Int) := by
      rw [w32_id (x := (r : Int) * 6) (by clear ih a2 hQ h2 h3 h4 z1 hB kr; omega) (by clear ih a2 hQ h2 h3 h4 z1 hB kr; omega), w32_id (by clear ih a2 hQ h2 h3 h4 z1 hB kr; omega) (by clear ih a2 hQ h2 h3 h4 z1 hB kr; omega)]
      clear ih a2 hQ h2 h3 h4 z1 hB kr; omega
    have ji : 0 ≤ ((6 * r + k : Nat) : Int) ∧ ((6 * r + k : Nat) : Int) < 48 := by clear ih a2 hQ h2 h3 h4 z1 hB kr wi; omega
    have e59 := a2 r hr
    rw [if_neg (Nat.lt_irrefl r)] at e59
    have e61 : H' 61 ((6 * r + k : Nat) : Int) = aTr V r k := by rw [a61]; exact h3 r k hr hk
    have hg := hB r hr
    have ha := aTr_rng hI.m (k := k) hr
    have hax : -(9 * bX) ≤ aTr V r k * x ∧ aTr V r k * x ≤ 9 * bX := by
      have hn : ∃ n : Nat, n ≤ 9 ∧ (x = n ∨ x = -(n : Int)) := ⟨x.natAbs, by clear ih a2 hQ h2 h3 h4 z1 hB kr wi e59 e61; omega, by clear ih a2 hQ h2 h3 h4 z1 hB kr wi e59 e61; omega⟩
      obtain ⟨n, n9, hn⟩ := hn
      have m1 : aTr V r k * (n : Int) = (n : Int) * aTr V r k := Int.mul_comm _ _
      have m2 : aTr V r k * -(n : Int) = -((n : Int) * aTr V r k) := by rw [Int.mul_neg, m1]
      have hb : -(9 * bX) ≤ (n : Int) * aTr V r k ∧ (n : Int) * aTr V r k ≤ 9 * bX := by
        generalize aTr V r k = a at ha ⊢
        have : n = 0 ∨ n = 1 ∨ n = 2 ∨ n = 3 ∨ n = 4 ∨ n = 5 ∨ n = 6 ∨ n = 7 ∨ n = 8 ∨ n = 9 := by clear ih a2 hQ h2 h3 h4 z1 hB kr wi e59 e61 hn m1 m2; omega
        unfold bX at ha ⊢
        rcases this with rfl | rfl | rfl | rfl | rfl | rfl | rfl | rfl | rfl | rfl <;> (clear ih a2 hQ h2 h3 h4 z1 hB kr wi e59 e61 hn m1 m2; omega)
      rcases hn with e | e
      · rw [e, m1]; exact hb
      · rw [e, m2]
        generalize (n : Int) * aTr V r k = y at hb ⊢
        clear ih a2 hQ h2 h3 h4 z1 hB kr wi e59 e61 m1 m2 e; omega
    have w1 : w64 (aTr V r k * x) = aTr V r k * x := by
      unfold bX at hax
      generalize aTr V r k * x = y at hax ⊢
      exact w64_id (by clear ih a2 hQ h2 h3 h4 z1 hB kr wi e59 e61; omega) (by clear ih a2 hQ h2 h3 h4 z1 hB kr wi e59 e61; omega)
    have w2 : w64 (gp r + aTr V r k * x) = stG2 V gp k x r := by
      unfold stG2
      unfold bX at hax
      generalize aTr V r k * x = y at hax ⊢
      exact w64_id (by clear ih a2 hQ h2 h3 h4 z1 hB kr wi e59 e61 w1; omega) (by clear ih a2 hQ h2 h3 h4 z1 hB kr wi e59 e61 w1; omega)
    rw [e_TR_tryMore_1]
    simp only [k_TR_tryMore_1, rr, sh, Nat.reduceLT, Nat.reduceMul, Int.reduceToNat, Int.reduceGT, Int.reduceGE, Int.reduceNe, true_and, and_true, true_or, or_true, false_or, or_false, and_self, or_self, if_true, if_false, reduceIte, not_true_eq_false, not_false_eq_true, Int.reduceEq, Int.reduceNe, Int.reduceLT, Int.reduceLE, Int.reduceAdd, Int.reduceSub, Int.reduceMul, Int.reduceNeg, Nat.reduceAdd, Nat.reduceLeDiff, Nat.reduceEqDiff, ne_eq, List.length_cons, List.length_nil, Nat.reduceSub, z1, (trF hI a1).1, (trF hI a1).2.1, (trF hI a1).2.2.2.2.2.2.2.2, c1, jr, wi, ji, e59, e61, w1, w2, kr]
    refine ih _ (a1.hs (c := 59) rfl) (fun r' hr' => ?_) ((hs_ne (by decide)).trans a61) ((hs_ne (by decide)).trans a62) ((hs_ne (by decide)).trans a63) ((hs_ne (by decide)).trans a64) ((hs_ne (by decide)).trans a65)
    rw [hs_at]
    by_cases e : r' = r
    · subst e; rw [if_pos rfl, if_pos (Nat.lt_succ_self r')]
    · rw [if_neg (fun z => e (Int.ofNat_inj.mp z)), a2 r' hr']
      by_cases e2 : r' < r
      · rw [if_pos e2, if_pos (Nat.lt_succ_of_lt e2)]
      · rw [if_neg e2, if_neg (fun z => e2 (Nat.lt_of_le_of_ne (Nat.le_of_lt_succ z) e))]
end TR
