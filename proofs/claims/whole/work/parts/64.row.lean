/-! row: draws -/
def drw (s : Int) : Int := (1103515245 * s + 12345) % 2147483648
def d3 (s : Int) : Int := s / 64 % 3
def rsd (V : Hp) (s : Int) : Nat → Int
  | 0 => s
  | k + 1 => if V 107 k = -1 then rsd V s k else drw (rsd V s k)
def rpl (V : Hp) (t s : Int) (k : Nat) : Int := max 0 (stg V (V 107 k) t + d3 s - 1) * lvr V 1 k
def rsm (V : Hp) (t s : Int) : Nat → Int
  | 0 => 0
  | k + 1 => if V 107 k = -1 then rsm V t s k else rsm V t s k + sgn ((sdV V).testBit k) (rpl V t (drw (rsd V s k)) k)
def rwK (V : Hp) : Nat → Int × Int
  | 0 => (V 71 57, V 71 48)
  | k + 1 => (rsd V (rwK V k).1 (nS V), w64 ((rwK V k).2 + rsm V (V 71 47 + k + 1) (rwK V k).1 (nS V)))
def rwS (a b : Int) : Bool := if a = 20 then true else if a = 21 then true else if a = 22 then true else if a = 23 then true else if a = 108 then true else if a = 109 then true else if a = 110 then true else if a = 111 then true else if a = 4 then (decide (b = 3) || decide (b = 4) || decide (b = 5) || decide (b = 10) || decide (b = 11)) else if a = 71 then (decide (b = 47) || decide (b = 48) || decide (b = 55) || decide (b = 56) || decide (b = 57)) else false
def s345 (a b : Int) : Bool := if a = 4 then (decide (b = 3) || decide (b = 4) || decide (b = 5)) else false
def s478 (a b : Int) : Bool := if a = 71 then (decide (b = 47) || decide (b = 48) || decide (b = 57)) else false
theorem drw_rng (s : Int) : 0 ≤ drw s ∧ drw s < 2147483648 := by unfold drw; omega
theorem d3_rng {s : Int} (h : 0 ≤ s) : 0 ≤ d3 s ∧ d3 s ≤ 2 := by unfold d3; omega
theorem rsd_rng {V : Hp} {s : Int} (h : 0 ≤ s ∧ s < 2147483648) (k : Nat) : 0 ≤ rsd V s k ∧ rsd V s k < 2147483648 := by
  induction k with
  | zero => exact h
  | succ k ih =>
    show 0 ≤ (if V 107 k = -1 then rsd V s k else drw (rsd V s k)) ∧ (if V 107 k = -1 then rsd V s k else drw (rsd V s k)) < _
    split
    · exact ih
    · exact drw_rng _
theorem rwK_rng {V : Hp} (hM : CrewM V) (k : Nat) : (0 ≤ (rwK V k).1 ∧ (rwK V k).1 < 2147483648) ∧ -9223372036854775808 ≤ (rwK V k).2 ∧ (rwK V k).2 < 9223372036854775808 := by
  induction k with
  | zero => exact ⟨hM.seed, hM.2.2.2.2.2⟩
  | succ k ih => exact ⟨rsd_rng ih.1 _, w64_rng _⟩
set_option maxRecDepth 20000 in
theorem rs_cg {V H : Hp} (h : Fx rwS V H) : (∀ s k, rsd H s k = rsd V s k) ∧ (∀ t s k, rsm H t s k = rsm V t s k) ∧ nS H = nS V ∧ nR H = nR V := by
  have e107 : H 107 = V 107 := h.cell 107 (fun _ => rfl)
  have e91 : H 91 = V 91 := h.cell 91 (fun _ => rfl)
  have e92 : H 92 = V 92 := h.cell 92 (fun _ => rfl)
  have e93 : H 93 = V 93 := h.cell 93 (fun _ => rfl)
  have e96 : H 96 = V 96 := h.cell 96 (fun _ => rfl)
  have e97 : H 97 = V 97 := h.cell 97 (fun _ => rfl)
  have e49 : H 71 49 = V 71 49 := h 71 49 rfl
  have r1 : ∀ s k, rsd H s k = rsd V s k := fun s k => by
    induction k with
    | zero => rfl
    | succ k ih => simp only [rsd, e107, ih]
  refine ⟨r1, fun t s k => ?_, ?_, ?_⟩
  · induction k with
    | zero => rfl
    | succ k ih => simp only [rsm, rpl, lvr, stg, sdV, e107, e92, e93, e96, e97, e49, ih, r1]
  · simp only [nS, nN, e91]
  · simp only [nR, nN, e91]
theorem l_and_31 {a : Nat} (ha : a < 9223372036854775808) : l_and a 2147483647 = ((a % 2147483648 : Nat) : Int) := by
  show (Int64.ofInt a &&& Int64.ofInt ((2147483647 : Nat) : Int)).toBitVec.toInt = _
  rw [Int64.toBitVec_and, i64b, i64b]
  refine bv_int ?_ ?_
  · rw [BitVec.toNat_and, BitVec.toNat_ofNat, BitVec.toNat_ofNat, Nat.mod_eq_of_lt (by omega), Nat.mod_eq_of_lt (by omega)]
    exact Nat.and_two_pow_sub_one_eq_mod a 31
  · have := Nat.mod_lt a (show 0 < 2147483648 by decide)
    omega
theorem drw_c {s : Int} (h : 0 ≤ s ∧ s < 2147483648) : l_and (w64 (w64 (1103515245 * s) + 12345)) 2147483647 = drw s ∧ w64 ((w64 (w64 (1103515245 * s) + 12345)).tmod 2147483648) = drw s ∧ w64 ((drw s).tdiv 64) = drw s / 64 ∧ w32 (w64 ((drw s / 64).tmod 3)) = d3 (drw s) := by
  have hr := drw_rng s
  obtain ⟨n, rfl⟩ := Int.eq_ofNat_of_zero_le h.1
  have w1 : w64 (1103515245 * (n : Int)) = 1103515245 * n := w64_id (by omega) (by omega)
  have w2 : w64 (1103515245 * (n : Int) + 12345) = ((1103515245 * n + 12345 : Nat) : Int) := by rw [w64_id (by omega) (by omega)]; omega
  rw [w1, w2]
  refine ⟨?_, ?_, ?_, ?_⟩
  · rw [l_and_31 (by omega)]; unfold drw; omega
  · rw [Int.tmod_eq_emod_of_nonneg (by omega), w64_id (by omega) (by omega)]; unfold drw; omega
  · rw [Int.tdiv_eq_ediv_of_nonneg hr.1, w64_id (by omega) (by omega)]
  · unfold d3
    rw [Int.tmod_eq_emod_of_nonneg (by omega), w64_id (by omega) (by omega), w32_id (by omega) (by omega)]
section RO
variable {d : Nat} {V X : Hp} {Q : AV → Hp → Prop}
theorem q_draw {s : Int} (h : X 4 5 = s) (hs' : 0 ≤ s ∧ s < 2147483648) : CC d CW_drawOfThree [va 4] X Q = Q (vi (d3 (drw s))) (hs X 4 5 (drw s)) := by
  refine CC_dt fun Q hQ => ?_
  obtain ⟨w1, w2, w3, w4⟩ := drw_c hs'
  simp only [en_CW_drawOfThree, e_CW_drawOfThree_0, k_CW_drawOfThree_0, rr, sh, Nat.reduceLT, Nat.reduceMul, Int.reduceToNat, Int.reduceGT, Int.reduceGE, Int.reduceNe, true_and, and_true, true_or, or_true, false_or, or_false, and_self, or_self, if_true, if_false, reduceIte, not_true_eq_false, not_false_eq_true, Int.reduceEq, Int.reduceNe, Int.reduceLT, Int.reduceLE, Int.reduceAdd, Int.reduceSub, Int.reduceMul, Int.reduceNeg, Nat.reduceAdd, Nat.reduceLeDiff, Nat.reduceEqDiff, ne_eq, List.length_cons, List.length_nil, Nat.reduceSub, h, w1, w3, w4, hs_same]
  exact hQ
theorem q_drawM {s : Int} (h : X 71 57 = s) (hs' : 0 ≤ s ∧ s < 2147483648) : CC d MO_drawOf [va 71, vi 3] X Q = Q (vi (d3 (drw s))) (hs X 71 57 (drw s)) := by
  refine CC_dt fun Q hQ => ?_
  obtain ⟨w1, w2, w3, w4⟩ := drw_c hs'
  simp only [en_MO_drawOf, e_MO_drawOf_0, k_MO_drawOf_0, rr, sh, Nat.reduceLT, Nat.reduceMul, Int.reduceToNat, Int.reduceGT, Int.reduceGE, Int.reduceNe, true_and, and_true, true_or, or_true, false_or, or_false, and_self, or_self, if_true, if_false, reduceIte, not_true_eq_false, not_false_eq_true, Int.reduceEq, Int.reduceNe, Int.reduceLT, Int.reduceLE, Int.reduceAdd, Int.reduceSub, Int.reduceMul, Int.reduceNeg, Nat.reduceAdd, Nat.reduceLeDiff, Nat.reduceEqDiff, ne_eq, List.length_cons, List.length_nil, Nat.reduceSub, h, w2, w3, w4, hs_same]
  exact hQ
theorem rw_g (hI : Inq V) (hX : Fx rwS V X) : X 4 0 = V 4 0 ∧ X 4 1 = 18 ∧ X 4 2 = 19 ∧ X 18 = V 18 ∧ X 19 = V 19 ∧ X (V 4 0) = V (V 4 0) ∧ V (V 4 0) 3 = V 4 0 + 3 ∧ sht (V 4 0 + 3) = 2 ∧ shl (V 4 0 + 3) = 48 ∧ X (V 4 0 + 3) = V (V 4 0 + 3) ∧ V (V 4 0) 8 = V 4 0 + 5 ∧ sht (V 4 0 + 5) = 1 ∧ shl (V 4 0 + 5) = 12 ∧ X (V 4 0 + 5) = V (V 4 0 + 5) ∧ V (V 4 0) 9 = V 4 0 + 6 ∧ sht (V 4 0 + 6) = 1 ∧ shl (V 4 0 + 6) = 12 ∧ X (V 4 0 + 6) = V (V 4 0 + 6) := by
  have f := hI.ptr
  have h5 := (Vw.rf (V := V)).f f
  refine ⟨hX 4 0 rfl, (hX 4 1 rfl).trans (f (4, 1, 18) (by decide +kernel)), (hX 4 2 rfl).trans (f (4, 2, 19) (by decide +kernel)), hX.cell 18 (fun _ => rfl), hX.cell 19 (fun _ => rfl), ?_⟩
  have f3 := f (5, 3, 8) (by decide +kernel)
  have f8 := f (5, 8, 10) (by decide +kernel)
  have f9 := f (5, 9, 11) (by decide +kernel)
  have g3 := f (25, 3, 28) (by decide +kernel)
  have g8 := f (25, 8, 30) (by decide +kernel)
  have g9 := f (25, 9, 31) (by decide +kernel)
  rcases hI.pp with e | e <;> rw [e]
  · exact ⟨hX.cell 5 (fun _ => rfl), f3, rfl, rfl, hX.cell 8 (fun _ => rfl), f8, rfl, rfl, hX.cell 10 (fun _ => rfl), f9, rfl, rfl, hX.cell 11 (fun _ => rfl)⟩
  · exact ⟨hX.cell 25 (fun _ => rfl), g3, rfl, rfl, hX.cell 28 (fun _ => rfl), g8, rfl, rfl, hX.cell 30 (fun _ => rfl), g9, rfl, rfl, hX.cell 31 (fun _ => rfl)⟩
set_option maxRecDepth 20000 in
theorem q_strengthX (hI : Inq V) (hX : Fx rwS V X) {r t : Int} (hr : 0 ≤ r ∧ r < nR V) (ht : 0 ≤ t) (ht2 : t ≤ 100000) : CC (d + 1) CW_strengthAt [va 4, vi r, vi t] X Q = Q (vi (stg V r t)) X := by
  refine CC_dt fun Q hQ => ?_
  have h1 := hI.plan.rowers
  obtain ⟨k, rfl⟩ := Int.eq_ofNat_of_zero_le hr.1
  have hk : k < nR V := by omega
  have hn := hI.boat.r
  have e1 := hI.plan.str k hk
  have e2 := hI.plan.tire k hk
  have b1 := hI.boat.str k hk
  have b2 := hI.boat.tire k hk
  have hm : 0 ≤ V 97 (12 + k) * (t / 10) ∧ V 97 (12 + k) * (t / 10) ≤ 9 * 10000 := ⟨Int.mul_nonneg b2.1 (by omega), Int.mul_le_mul b2.2 (by omega) (by omega) (by omega)⟩
  have w1 : w32 (t.tdiv 10) = t / 10 := by rw [tdiv_nn ht]; exact w32_id (by omega) (by omega)
  have w2 : w32 (V 97 (12 + k) * (t / 10)) = V 97 (12 + k) * (t / 10) := w32_id (by omega) (by omega)
  have w3 : w32 (V 96 (12 + k) - V 97 (12 + k) * (t / 10)) = V 96 (12 + k) - V 97 (12 + k) * (t / 10) := w32_id (by omega) (by omega)
  have j1 : 0 ≤ (k : Int) ∧ (k : Int) < 12 := by omega
  have d1 : ¬ (k : Int) < 0 := Int.not_lt.mpr hr.1
  have z1 := shp hI
  obtain ⟨g1, g2, g3, g4, g5, g6, g7, g8, g9, g10, g11, g12, g13, g14, g15, g16, g17, g18⟩ := rw_g hI hX
  simp only [en_CW_strengthAt, e_CW_strengthAt_0, k_CW_strengthAt_0, e_CW_strengthAt_1, k_CW_strengthAt_1, e_CW_strengthAt_2, k_CW_strengthAt_2, rr, sh, Nat.reduceLT, Nat.reduceMul, Int.reduceToNat, Int.reduceGT, Int.reduceGE, Int.reduceNe, true_and, and_true, true_or, or_true, false_or, or_false, and_self, or_self, if_true, if_false, reduceIte, not_true_eq_false, not_false_eq_true, Int.reduceEq, Int.reduceNe, Int.reduceLT, Int.reduceLE, Int.reduceAdd, Int.reduceSub, Int.reduceMul, Int.reduceNeg, Nat.reduceAdd, Nat.reduceLeDiff, Nat.reduceEqDiff, ne_eq, List.length_cons, List.length_nil, Nat.reduceSub, g1, g2, g4, g6, g11, g12, g13, g14, g15, g16, g17, g18, z1, q_maxI, h1, hr, d1, e1, e2, w1, w2, w3, j1]
  exact hQ
set_option maxRecDepth 20000 in
theorem q_forceX (hI : Inq V) (hX : Fx rwS V X) {k : Nat} {t : Int} (hk : k < nS V) (h : V 107 k ≠ -1) (ht : 0 ≤ t) (ht2 : t ≤ 100000) : CC (d + 2) CW_forceIn [va 4, vi k, vi t] X Q = Q (vi (stg V (V 107 k) t)) X := by
  have h1 := hI.plan.seats
  have hn := hI.boat.s
  have hs := hI.crew.sits k (by omega)
  have e1 := hI.cc.sits k (by omega)
  have c1 : 0 ≤ (k : Int) ∧ (k : Int) < nS V := ⟨by omega, by omega⟩
  have j1 : 0 ≤ (k : Int) ∧ (k : Int) < 12 := by omega
  have hr : 0 ≤ V 107 k ∧ V 107 k < nR V := by omega
  have z1 := shp hI
  obtain ⟨g1, g2, g3, g4, g5, g6, g7, g8, g9, g10, g11, g12, g13, g14, g15, g16, g17, g18⟩ := rw_g hI hX
  simp only [en_CW_forceIn, e_CW_forceIn_0, k_CW_forceIn_0, e_CW_forceIn_1, k_CW_forceIn_1, e_CW_forceIn_2, k_CW_forceIn_2, rr, sh, Nat.reduceLT, Nat.reduceMul, Int.reduceToNat, Int.reduceGT, Int.reduceGE, Int.reduceNe, true_and, and_true, true_or, or_true, false_or, or_false, and_self, or_self, if_true, if_false, reduceIte, not_true_eq_false, not_false_eq_true, Int.reduceEq, Int.reduceNe, Int.reduceLT, Int.reduceLE, Int.reduceAdd, Int.reduceSub, Int.reduceMul, Int.reduceNeg, Nat.reduceAdd, Nat.reduceLeDiff, Nat.reduceEqDiff, ne_eq, List.length_cons, List.length_nil, Nat.reduceSub, g1, g2, g4, g6, q_isSeat z1, z1, h1, c1, j1, ite10_0, e1, q_strengthX hI hX hr ht ht2]
set_option maxRecDepth 20000 in
theorem q_leverX (hI : Inq V) (hX : Fx rwS V X) {k : Nat} (hk : k < nS V) : CC (d + 2) CW_leverToSide [va 4, vi 1, vi k] X Q = Q (vl (sgn ((sdV V).testBit k) (lvr V 1 k))) X := by
  have h1 := hI.plan.seats
  have hn := hI.boat.s
  have c1 : 0 ≤ (k : Int) ∧ (k : Int) < nS V := ⟨by omega, by omega⟩
  have e1 := hI.cc.right k hk
  have e2 := hI.plan.lever 1 k (by decide) hk
  have w1 : w32 (w32 12 + (k : Int)) = 12 + k := by rw [w32_id (x := 12) (by omega) (by omega), w32_id (by omega) (by omega)]
  have b1 := hI.boat.place k hk
  have b2 := hI.boat.arm k hk
  have hl : lvr V 1 k = V 93 (12 + k) * V 92 (12 + k) := by unfold lvr; rw [show V 92 (12 + (k : Int)) ^ 1 = V 92 (12 + k) by grind]
  have hb : 0 ≤ V 93 (12 + k) * V 92 (12 + k) ∧ V 93 (12 + k) * V 92 (12 + k) ≤ 99 * 99 := ⟨Int.mul_nonneg (by omega) (by omega), Int.mul_le_mul b2.2 b1.2 (by omega) (by omega)⟩
  have w2 : w64 (-(lvr V 1 k)) = -(lvr V 1 k) := by rw [hl]; exact w64_id (by omega) (by omega)
  have j1 : 0 ≤ (k : Int) ∧ (k : Int) < 12 := by omega
  have j2 : 0 ≤ 12 + (k : Int) ∧ 12 + (k : Int) < 48 := by omega
  have e3 : V (V 4 0 + 3) (12 + k) = lvr V 1 k := e2
  have d3 : ¬ (k : Int) < 0 := by omega
  have d4 : ¬ (nS V : Int) ≤ (k : Int) := by omega
  have z1 := shp hI
  clear hb b1 b2 hl e2
  obtain ⟨g1, g2, g3, g4, g5, g6, g7, g8, g9, g10, g11, g12, g13, g14, g15, g16, g17, g18⟩ := rw_g hI hX
  unfold sgn
  cases hbt : (sdV V).testBit k
  all_goals
    rw [hbt] at e1
    simp only [if_true, if_false, Bool.false_eq_true] at e1
    simp only [en_CW_leverToSide, e_CW_leverToSide_0, k_CW_leverToSide_0, e_CW_leverToSide_1, k_CW_leverToSide_1, e_CW_leverToSide_2, k_CW_leverToSide_2, e_CW_leverToSide_3, k_CW_leverToSide_3, en_PL_leverOf, e_PL_leverOf_0, k_PL_leverOf_0, e_PL_leverOf_1, k_PL_leverOf_1, e_PL_leverOf_2, k_PL_leverOf_2, e_PL_leverOf_3, k_PL_leverOf_3, e_PL_leverOf_4, k_PL_leverOf_4, rr, sh, Nat.reduceLT, Nat.reduceMul, Int.reduceToNat, Int.reduceGT, Int.reduceGE, Int.reduceNe, true_and, and_true, true_or, or_true, false_or, or_false, and_self, or_self, if_true, if_false, reduceIte, not_true_eq_false, not_false_eq_true, Int.reduceEq, Int.reduceNe, Int.reduceLT, Int.reduceLE, Int.reduceAdd, Int.reduceSub, Int.reduceMul, Int.reduceNeg, Nat.reduceAdd, Nat.reduceLeDiff, Nat.reduceEqDiff, ne_eq, List.length_cons, List.length_nil, Nat.reduceSub, g1, g3, g5, g6, g7, g8, g9, g10, q_isSeat z1, z1, h1, c1, d3, d4, j1, j2, ite10_0, ite10_1, w1, e3, e1, w2, Bool.false_eq_true]
end RO
