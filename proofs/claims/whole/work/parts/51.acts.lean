/-! acts are noted -/
def mxt (m : Int) : Int := (m + 1) % 30
theorem mxt_w {m : Int} (h : 0 ≤ m ∧ m < 30) : w32 ((w32 (m + 1)).tmod 30) = mxt m ∧ 0 ≤ mxt m ∧ mxt m < 30 := by
  unfold mxt
  rw [w32_id (x := m + 1) (by omega) (by omega), Int.tmod_eq_emod_of_nonneg (by omega), w32_id (by omega) (by omega)]
  omega
/-- the class's note of an act -/
def ntH (H : Hp) (k a b : Int) : Hp := hs (hs (hs (hs (hs (hs H 20 (H 4 10) k) 21 (H 4 10) a) 22 (H 4 10) b) 23 (H 4 10) (H 4 4)) 4 10 (mxt (H 4 10))) 4 11 (min 30 (H 4 11 + 1))
/-- the reference's snapshot of all -/
def sKP (a b : Int) : Bool := if a = 108 then true else if a = 109 then true else if a = 110 then true else if a = 111 then true else if a = 71 then (decide (b = 55) || decide (b = 56)) else false
def KeepR (H H' : Hp) : Prop := Fx sKP H H' ∧ H' 71 56 = mxt (H 71 56) ∧ H' 71 55 = min 30 (H 71 55 + 1) ∧
  (∀ j : Int, H' 108 j = if j = mxt (H 71 56) then H 71 47 else H 108 j) ∧ (∀ j : Int, H' 109 j = if j = mxt (H 71 56) then H 71 48 else H 109 j) ∧ (∀ j : Int, H' 110 j = if j = mxt (H 71 56) then H 71 49 else H 110 j) ∧
  ∀ j : Int, ∀ k : Nat, 0 ≤ j → j < 30 → k < 12 → H' 111 (12 * j + k) = if j = mxt (H 71 56) then H 107 k else H 111 (12 * j + k)
section AC
variable {d : Nat} {V H : Hp} {Q : AV → Hp → Prop}
set_option maxRecDepth 20000 in
theorem q_noteAct (hP : Ptr V) (hH : Vw V H) (hm : 0 ≤ V 4 10 ∧ V 4 10 < 30) (hc : 0 ≤ V 4 11 ∧ V 4 11 ≤ 30) {k a b : Int} : CC (d + 1) CW_noteAct [va 4, vi k, vi a, vi b] H Q = Q vu (ntH H k a b) := by
  refine CC_dt fun Q hQ => ?_
  obtain ⟨w1, w2, w3⟩ := mxt_w hm
  have w4 : w32 (V 4 11 + 1) = V 4 11 + 1 := w32_id (by clear w1; omega) (by clear w1; omega)
  have e1 : H 4 10 = V 4 10 := hH 4 10 rfl
  have e2 : H 4 11 = V 4 11 := hH 4 11 rfl
  have e3 : H 4 4 = V 4 4 := hH 4 4 rfl
  unfold ntH at hQ
  rw [e1, e2, e3] at hQ
  have f := hH.f hP
  simp only [en_CW_noteAct, e_CW_noteAct_0, k_CW_noteAct_0, rr, sh, Nat.reduceLT, Nat.reduceMul, Int.reduceToNat, Int.reduceGT, Int.reduceGE, Int.reduceNe, true_and, and_true, true_or, or_true, false_or, or_false, and_self, or_self, if_true, if_false, reduceIte, not_true_eq_false, not_false_eq_true, Int.reduceEq, Int.reduceNe, Int.reduceLT, Int.reduceLE, Int.reduceAdd, Int.reduceSub, Int.reduceMul, Int.reduceNeg, Nat.reduceAdd, Nat.reduceLeDiff, Nat.reduceEqDiff, ne_eq, List.length_cons, List.length_nil, Nat.reduceSub, f, hm, q_minI, w1, w4, hs_ne (show (4 : Int) ≠ 20 by decide), hs_ne (show (4 : Int) ≠ 21 by decide), hs_ne (show (4 : Int) ≠ 22 by decide), hs_ne (show (4 : Int) ≠ 23 by decide), show ∀ (X : Hp) (v : Int), hs X 4 10 v 4 11 = X 4 11 from fun X v => by rw [hs_app, if_neg (by decide)]]
  exact hQ
theorem kp_ix {m : Int} {k : Nat} (h0 : 0 ≤ m) (h : m < 30) (hk : k < 12) : w32 (w32 (12 * m) + k) = 12 * m + k ∧ (0 ≤ 12 * m + k ∧ 12 * m + (k : Int) < 360) := by
  rw [w32_id (x := 12 * m) (by omega) (by omega), w32_id (by omega) (by omega)]
  exact ⟨rfl, by omega, by omega⟩
set_option maxRecDepth 20000 in
theorem c_keeps (hP : Ptr V) (hH : Vw V H) (hm : 0 ≤ V 71 56 ∧ V 71 56 < 30) (hc : 0 ≤ V 71 55 ∧ V 71 55 ≤ 30) (hQ : ∀ H', KeepR H H' → Q vu H') : CC d MO_keeps [va 71] H Q := by
  obtain ⟨w1, w2, w3⟩ := mxt_w hm
  have em : H 71 56 = V 71 56 := hH 71 56 rfl
  have e55 : H 71 55 = V 71 55 := hH 71 55 rfl
  have e47 : H 71 47 = V 71 47 := hH 71 47 rfl
  have e48 : H 71 48 = V 71 48 := hH 71 48 rfl
  have e49 : H 71 49 = V 71 49 := hH 71 49 rfl
  have w4 : ¬ 30 ≤ V 71 55 → w32 (V 71 55 + 1) = V 71 55 + 1 := fun _ => w32_id (by clear w1 em e55 e47 e48 e49; omega) (by clear w1 em e55 e47 e48 e49; omega)
  have f := hH.f hP
  have z1 : ∀ (X : Hp) (v : Int), hs X 71 56 v 71 47 = X 71 47 := fun X v => by rw [hs_app, if_neg (by decide)]
  have z2 : ∀ (X : Hp) (v : Int), hs X 71 56 v 71 48 = X 71 48 := fun X v => by rw [hs_app, if_neg (by decide)]
  have z3 : ∀ (X : Hp) (v : Int), hs X 71 56 v 71 49 = X 71 49 := fun X v => by rw [hs_app, if_neg (by decide)]
  have z4 : ∀ (X : Hp) (v j : Int), (j = 51 ∨ j = 52 ∨ j = 53 ∨ j = 54 ∨ j = 50) → hs X 71 56 v 71 j = X 71 j := fun X v j h => by rw [hs_app, if_neg (by omega)]
  simp only [en_MO_keeps, e_MO_keeps_0, k_MO_keeps_0, rr, sh, Nat.reduceLT, Nat.reduceMul, Int.reduceToNat, Int.reduceGT, Int.reduceGE, Int.reduceNe, true_and, and_true, true_or, or_true, false_or, or_false, and_self, or_self, if_true, if_false, reduceIte, not_true_eq_false, not_false_eq_true, Int.reduceEq, Int.reduceNe, Int.reduceLT, Int.reduceLE, Int.reduceAdd, Int.reduceSub, Int.reduceMul, Int.reduceNeg, Nat.reduceAdd, Nat.reduceLeDiff, Nat.reduceEqDiff, ne_eq, List.length_cons, List.length_nil, Nat.reduceSub, f, w1, w2, w3, z1, z2, z3, z4, hs_ne (show (71 : Int) ≠ 108 by decide), hs_ne (show (71 : Int) ≠ 109 by decide), hs_ne (show (71 : Int) ≠ 110 by decide), hs_same]
  have p54 : H 71 54 = 111 := (hH 71 54 rfl).trans (hP (71, 54, 111) (by decide +kernel))
  have p50 : H 71 50 = 107 := (hH 71 50 rfl).trans (hP (71, 50, 107) (by decide +kernel))
  clear f z1 z2 z3 z4
  refine up_nat (P := fun k => ∀ H', Fx sKP H H' → H' 71 56 = mxt (H 71 56) → H' 71 55 = H 71 55 → (∀ j : Int, H' 108 j = if j = mxt (H 71 56) then H 71 47 else H 108 j) → (∀ j : Int, H' 109 j = if j = mxt (H 71 56) then H 71 48 else H 109 j) → (∀ j : Int, H' 110 j = if j = mxt (H 71 56) then H 71 49 else H 110 j) → (∀ j : Int, ∀ q : Nat, 0 ≤ j → j < 30 → q < 12 → H' 111 (12 * j + q) = if j = mxt (H 71 56) ∧ q < k then H 107 q else H 111 (12 * j + q)) → R d MO_keeps (blk MO_keeps 1) [va 71, vi k] [] H' Q) ?_ ?_ 0 (Nat.zero_le 12) _ ((((Fx.rf.hs (c := 71) (j := 56) rfl).hs (c := 108) rfl).hs (c := 109) rfl).hs (c := 110) rfl) ?_ ?_ ?_ ?_ ?_ ?_
  · intro H' a1 a2 a3 a4 a5 a6 a7
    have fin : ∀ H2, H2 = hs H' 71 55 (min 30 (H 71 55 + 1)) → Q vu H2 := fun H2 hh => by
      subst hh
      refine hQ _ ⟨a1.hs (c := 71) (j := 55) rfl, ?_, hs_same, fun j => ?_, fun j => ?_, fun j => ?_, fun j q h1 h2 h3 => ?_⟩
      · rw [hs_app, if_neg (by decide)]; exact a2
      · rw [hs_ne (by decide)]; exact a4 j
      · rw [hs_ne (by decide)]; exact a5 j
      · rw [hs_ne (by decide)]; exact a6 j
      · rw [hs_ne (by decide), a7 j q h1 h2 h3]
        by_cases hj : j = mxt (H 71 56)
        · rw [if_pos ⟨hj, h3⟩, if_pos hj]
        · rw [if_neg (fun z => hj z.1), if_neg hj]
    rw [e_MO_keeps_1]
    by_cases c : 30 ≤ V 71 55
    · have hmin : min 30 (H 71 55 + 1) = H' 71 55 := by rw [a3, e55]; omega
      have hsame : H' = hs H' 71 55 (min 30 (H 71 55 + 1)) := by
        rw [hmin]
        funext x y
        rw [hs_app]
        by_cases q : x = 71 ∧ y = 55
        · rw [if_pos q, q.1, q.2]
        · rw [if_neg q]
      simp only [k_MO_keeps_1, e_MO_keeps_2, k_MO_keeps_2, e_MO_keeps_3, k_MO_keeps_3, rr, sh, Nat.reduceLT, Nat.reduceMul, Int.reduceToNat, Int.reduceGT, Int.reduceGE, Int.reduceNe, true_and, and_true, true_or, or_true, false_or, or_false, and_self, or_self, if_true, if_false, reduceIte, not_true_eq_false, not_false_eq_true, Int.reduceEq, Int.reduceNe, Int.reduceLT, Int.reduceLE, Int.reduceAdd, Int.reduceSub, Int.reduceMul, Int.reduceNeg, Nat.reduceAdd, Nat.reduceLeDiff, Nat.reduceEqDiff, ne_eq, List.length_cons, List.length_nil, Nat.reduceSub, ite10_0, ite10_1, ite10_01, Classical.not_not, Int.le_refl, a3, e55, c] <;> clear e55
      exact fin H' hsame
    · have w5 := w4 c
      have hmin : min 30 (H 71 55 + 1) = V 71 55 + 1 := by rw [e55]; omega
      have k3 := a3
      simp only [k_MO_keeps_1, e_MO_keeps_2, k_MO_keeps_2, e_MO_keeps_3, k_MO_keeps_3, rr, sh, Nat.reduceLT, Nat.reduceMul, Int.reduceToNat, Int.reduceGT, Int.reduceGE, Int.reduceNe, true_and, and_true, true_or, or_true, false_or, or_false, and_self, or_self, if_true, if_false, reduceIte, not_true_eq_false, not_false_eq_true, Int.reduceEq, Int.reduceNe, Int.reduceLT, Int.reduceLE, Int.reduceAdd, Int.reduceSub, Int.reduceMul, Int.reduceNeg, Nat.reduceAdd, Nat.reduceLeDiff, Nat.reduceEqDiff, ne_eq, List.length_cons, List.length_nil, Nat.reduceSub, ite10_0, ite10_1, ite10_01, Classical.not_not, Int.le_refl, a3, e55, c, w5] <;> clear e55 w5
      exact fin _ (by rw [hmin])
  · intro k hk ih H' a1 a2 a3 a4 a5 a6 a7
    have c1 : ¬ (12 : Int) ≤ k := by omega
    have j1 : 0 ≤ (k : Int) ∧ (k : Int) < 12 := by omega
    have b54 : H' 71 54 = 111 := (a1 71 54 rfl).trans p54
    have b50 : H' 71 50 = 107 := (a1 71 50 rfl).trans p50
    have b107 : H' 107 k = H 107 k := a1 107 k rfl
    rw [em] at a2
    obtain ⟨i1, i2⟩ := kp_ix w2 w3 hk
    have kw := w32_s (n := k) (by omega)
    rw [e_MO_keeps_1]
    simp only [k_MO_keeps_1, rr, sh, Nat.reduceLT, Nat.reduceMul, Int.reduceToNat, Int.reduceGT, Int.reduceGE, Int.reduceNe, true_and, and_true, true_or, or_true, false_or, or_false, and_self, or_self, if_true, if_false, reduceIte, not_true_eq_false, not_false_eq_true, Int.reduceEq, Int.reduceNe, Int.reduceLT, Int.reduceLE, Int.reduceAdd, Int.reduceSub, Int.reduceMul, Int.reduceNeg, Nat.reduceAdd, Nat.reduceLeDiff, Nat.reduceEqDiff, ne_eq, List.length_cons, List.length_nil, Nat.reduceSub, ite10_0, ite10_1, ite10_01, Classical.not_not, c1, j1, b54, b50, a2, i1, i2, b107, kw]
    refine ih _ (a1.hs (c := 111) rfl) ?_ ?_ (fun j => ?_) (fun j => ?_) (fun j => ?_) (fun j q h1 h2 h3 => ?_)
    · rw [hs_ne (by decide), em]; exact a2
    · rw [hs_ne (by decide)]; exact a3
    · rw [hs_ne (by decide)]; exact a4 j
    · rw [hs_ne (by decide)]; exact a5 j
    · rw [hs_ne (by decide)]; exact a6 j
    · rw [hs_app]
      by_cases hj : j = mxt (V 71 56) ∧ q = k
      · obtain ⟨rfl, rfl⟩ := hj
        rw [if_pos ⟨rfl, rfl⟩, if_pos ⟨by rw [em], Nat.lt_succ_self q⟩]
      · have n1 : ¬ ((111 : Int) = 111 ∧ 12 * j + (q : Int) = 12 * mxt (V 71 56) + k) := by clear a2 a3 em e55 e47 e48 e49 w1 w4 i1 kw b107; omega
        rw [if_neg n1, a7 j q h1 h2 h3]
        by_cases h4 : j = mxt (H 71 56) ∧ q < k
        · rw [if_pos h4, if_pos ⟨h4.1, Nat.lt_succ_of_lt h4.2⟩]
        · have n2 : ¬ (j = mxt (H 71 56) ∧ q < k + 1) := by
            intro z
            rw [em] at z h4
            exact h4 ⟨z.1, Nat.lt_of_le_of_ne (Nat.le_of_lt_succ z.2) (fun e => hj ⟨z.1, e⟩)⟩
          rw [if_neg h4, if_neg n2]
  · rw [hs_ne (by decide), hs_ne (by decide), hs_ne (by decide), em]; exact hs_same
  · rw [hs_ne (by decide), hs_ne (by decide), hs_ne (by decide), hs_app, if_neg (by decide)]
  · intro j
    rw [hs_ne (by decide), hs_ne (by decide), hs_app, em, e47, hs_ne (by decide)]
    by_cases h : j = mxt (V 71 56)
    · rw [if_pos ⟨rfl, h⟩, if_pos h]
    · rw [if_neg (fun z => h z.2), if_neg h]
  · intro j
    rw [hs_ne (by decide), hs_app, em, e48, hs_ne (by decide), hs_ne (by decide)]
    by_cases h : j = mxt (V 71 56)
    · rw [if_pos ⟨rfl, h⟩, if_pos h]
    · rw [if_neg (fun z => h z.2), if_neg h]
  · intro j
    rw [hs_app, em, e49, hs_ne (by decide), hs_ne (by decide), hs_ne (by decide)]
    by_cases h : j = mxt (V 71 56)
    · rw [if_pos ⟨rfl, h⟩, if_pos h]
    · rw [if_neg (fun z => h z.2), if_neg h]
  · intro j q h1 h2 h3
    rw [hs_ne (by decide), hs_ne (by decide), hs_ne (by decide), hs_ne (by decide), if_neg (fun z => Nat.not_lt_zero _ z.2)]
end AC
