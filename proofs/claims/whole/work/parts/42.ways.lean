/-! ways: sets of places by how many and their sum -/
def ck : Nat → Nat → Nat → Int
  | 0, k, v => if k = 0 ∧ v = 0 then 1 else 0
  | p + 1, k, v => ck p k v + (if 1 ≤ k ∧ p + 1 ≤ v then ck p (k - 1) (v - (p + 1)) else 0)
theorem ck_zero (p v : Nat) : ck p 0 v = if v = 0 then 1 else 0 := by
  induction p with
  | zero => simp [ck]
  | succ p ih =>
    show ck p 0 v + (if 1 ≤ 0 ∧ p + 1 ≤ v then _ else 0) = _
    rw [if_neg (by omega), Int.add_zero, ih]
theorem ck_big : ∀ (p k v : Nat), p < k → ck p k v = 0
  | 0, k, v, h => by show (if k = 0 ∧ v = 0 then (1 : Int) else 0) = 0; rw [if_neg (by omega)]
  | p + 1, k, v, h => by
    show ck p k v + (if 1 ≤ k ∧ p + 1 ≤ v then ck p (k - 1) (v - (p + 1)) else 0) = 0
    rw [ck_big p k v (by omega), ck_big p (k - 1) (v - (p + 1)) (by omega)]
    split <;> rfl
theorem ck_low (p k v : Nat) (h : v < p + 1) : ck (p + 1) k v = ck p k v := by
  show ck p k v + (if 1 ≤ k ∧ p + 1 ≤ v then _ else 0) = _
  rw [if_neg (by omega), Int.add_zero]
def wayV (n : Nat) : Int := if n % 4 = 0 then w64 (ck n (n / 2) (n * (n + 1) / 4)) else 0
def waysS (n : Int) : Int := if 1 ≤ n ∧ n ≤ 40 then wayV n.toNat else -1
/-- a table's state while place p + 1 comes in, from the larger sets down: done behind (k, v) -/
def ckT (H : Hp) (c : Int) (K S p k v : Nat) : Prop := ∀ i j : Nat, i ≤ K → j ≤ S → H c (411 * i + j) = w64 (if k < i ∨ (i = k ∧ v < j) then ck (p + 1) i j else ck p i j)
theorem ckT_step {H : Hp} {c : Int} {K S p k v : Nat} (hk : 1 ≤ k) (hK : k ≤ K) (hv : p + 1 ≤ v) (hS : v ≤ S) (hS2 : S ≤ 410) (h : ckT H c K S p k v) : ckT (hs H c (411 * k + v) (w64 (H c (411 * k + v) + H c (411 * ((k - 1 : Nat) : Int) + ((v - (p + 1) : Nat) : Int))))) c K S p k (v - 1) := by
  intro i j hi hj
  rw [hs_app]
  by_cases hij : i = k ∧ j = v
  · obtain ⟨rfl, rfl⟩ := hij
    have n1 : ¬ (i < i ∨ (i = i ∧ j < j)) := by omega
    have n2 : ¬ (i < i - 1 ∨ (i - 1 = i ∧ j < j - (p + 1))) := by omega
    have n3 : i < i ∨ (i = i ∧ j - 1 < j) := by omega
    have n4 : i - 1 ≤ K := by omega
    have n5 : j - (p + 1) ≤ S := by omega
    have e1 := h i j hK hS
    rw [if_neg n1] at e1
    have e2 := h (i - 1) (j - (p + 1)) n4 n5
    rw [if_neg n2] at e2
    rw [if_pos ⟨rfl, rfl⟩, e1, e2, w64_al, w64_ar, if_pos n3]
    show _ = w64 (ck p i j + (if 1 ≤ i ∧ p + 1 ≤ j then ck p (i - 1) (j - (p + 1)) else 0))
    rw [if_pos ⟨hk, hv⟩]
  · have n1 : ¬ (c = c ∧ 411 * (i : Int) + j = 411 * k + v) := by omega
    rw [if_neg n1]
    by_cases h1 : k < i ∨ (i = k ∧ v < j)
    · have n2 : k < i ∨ (i = k ∧ v - 1 < j) := by omega
      rw [h i j hi hj, if_pos h1, if_pos n2]
    · have n2 : ¬ (k < i ∨ (i = k ∧ v - 1 < j)) := by omega
      rw [h i j hi hj, if_neg h1, if_neg n2]
theorem ckT_row {H : Hp} {c : Int} {K S p k : Nat} (hk : 1 ≤ k) {v : Nat} (hv : v ≤ p) (h : ckT H c K S p k v) : ckT H c K S p (k - 1) S := by
  intro i j hi hj
  by_cases h1 : k < i ∨ (i = k ∧ v < j)
  · have n1 : k - 1 < i ∨ (i = k - 1 ∧ S < j) := by omega
    rw [h i j hi hj, if_pos h1, if_pos n1]
  · by_cases h2 : k - 1 < i ∨ (i = k - 1 ∧ S < j)
    · have n1 : j < p + 1 := by omega
      rw [h i j hi hj, if_neg h1, if_pos h2, ck_low p i j n1]
    · rw [h i j hi hj, if_neg h1, if_neg h2]
section WY
variable {d : Nat} {V H : Hp} {Q : AV → Hp → Prop}
theorem ix_w {k v : Nat} (hk : k ≤ 20) (hv : v ≤ 410) : w32 (w32 (411 * (k : Int)) + v) = 411 * (k : Int) + v ∧ 0 ≤ 411 * (k : Int) + v ∧ 411 * (k : Int) + v < 8631 := by
  rw [w32_id (x := 411 * (k : Int)) (by omega) (by omega), w32_id (by omega) (by omega)]
  omega
theorem ix_w2 {k v p : Nat} (hk1 : 1 ≤ k) (hk : k ≤ 20) (hp : p + 1 ≤ v) (hv : v ≤ 410) : w32 (w32 (w32 (411 * w32 ((k : Int) - 1)) + v) - ((p + 1 : Nat) : Int)) = 411 * ((k - 1 : Nat) : Int) + ((v - (p + 1) : Nat) : Int) ∧ 0 ≤ 411 * ((k - 1 : Nat) : Int) + ((v - (p + 1) : Nat) : Int) ∧ 411 * ((k - 1 : Nat) : Int) + ((v - (p + 1) : Nat) : Int) < 8631 := by
  rw [w32_id (x := (k : Int) - 1) (by omega) (by omega), w32_id (x := 411 * ((k : Int) - 1)) (by omega) (by omega), w32_id (x := 411 * ((k : Int) - 1) + v) (by omega) (by omega), w32_id (by omega) (by omega)]
  omega
/-- going down -/
theorem dn_nat {P : Nat → Prop} {lo : Nat} (hend : P lo) (hstep : ∀ k, lo < k → P (k - 1) → P k) : ∀ k, lo ≤ k → P k := by
  intro k hk
  induction hk with
  | refl => exact hend
  | step hle ih => exact hstep _ (Nat.lt_succ_of_le hle) ih
theorem w32_m1 {k : Nat} (h : 0 < k) (h2 : k < 100000) : w32 ((k : Int) + -1) = ((k - 1 : Nat) : Int) := by rw [w32_id (by omega) (by omega)]; omega
theorem tri_mod : ∀ n : Nat, n ≤ 40 → (n % 2 = 1 → ¬ n % 4 = 0) ∧ (¬ n % 2 = 1 → n * (n + 1) / 2 % 2 = 1 → ¬ n % 4 = 0) ∧ (¬ n % 2 = 1 → ¬ n * (n + 1) / 2 % 2 = 1 → n % 4 = 0) ∧ n * (n + 1) / 2 / 2 = n * (n + 1) / 4 ∧ n * (n + 1) / 2 / 2 ≤ 410 ∧ n / 2 ≤ 20 := by decide +kernel
theorem half_w {M : Nat} (h : M ≤ 1640) : w32 (M : Int) = M ∧ w32 ((M : Int).tdiv 2) = ((M / 2 : Nat) : Int) ∧ w32 ((M : Int).tmod 2) = ((M % 2 : Nat) : Int) := by
  refine ⟨w32_id (by omega) (by omega), ?_, ?_⟩
  · rw [Int.tdiv_eq_ediv_of_nonneg (by omega), w32_id (by omega) (by omega)]; omega
  · rw [Int.tmod_eq_emod_of_nonneg (by omega), w32_id (by omega) (by omega)]; omega
theorem tri_w {n : Nat} (h : n ≤ 40) : ∃ M : Nat, n * (n + 1) = M ∧ (n : Int) * ((n : Int) + 1) = M ∧ M ≤ 1640 := ⟨n * (n + 1), rfl, by norm_cast, Nat.mul_le_mul h (Nat.add_le_add_right h 1)⟩
theorem nat_one {x : Nat} : ((x : Int) = 1) = (x = 1) := propext ⟨fun h => by omega, fun h => by omega⟩
theorem pl_ix (p : Nat) (hp : p < 40) : w32 (((p + 1 : Nat) : Int) + 1) = ((p + 1 + 1 : Nat) : Int) := w32_s (by omega)
set_option maxRecDepth 20000 in
theorem ways_v (hP : Ptr V) {n K S p k : Nat} (hp : p < 40) (hk : 1 ≤ k) (hkK : k ≤ K) (hK : K ≤ 20) (hS : S ≤ 410) {x y : AV}
    (hout : ∀ v H', Vw V H' → ckT H' 112 K S p (k - 1) S → R d MO_ways (blk MO_ways 9) [va 71, x, y, vi S, vi ((p + 1 : Nat) : Int), vi k, vi v] [] H' Q) : ∀ v : Nat, v ≤ S → ∀ H', Vw V H' → ckT H' 112 K S p k v → R d MO_ways (blk MO_ways 8) [va 71, x, y, vi S, vi ((p + 1 : Nat) : Int), vi k, vi v] [] H' Q := by
  intro v
  have hk20 : k ≤ 20 := by omega
  have ex : ∀ v : Nat, v ≤ p → ∀ H', Vw V H' → ckT H' 112 K S p k v → R d MO_ways (blk MO_ways 8) [va 71, x, y, vi S, vi ((p + 1 : Nat) : Int), vi k, vi v] [] H' Q := by
    intro v hv H' hH hT
    have c1 : (v : Int) < ((p + 1 : Nat) : Int) := by omega
    have := hout v H' hH (ckT_row hk hv hT)
    rw [e_MO_ways_8]
    simp only [k_MO_ways_8, rr, sh, Nat.reduceLT, Nat.reduceMul, Int.reduceToNat, Int.reduceGT, Int.reduceGE, Int.reduceNe, true_and, and_true, true_or, or_true, false_or, or_false, and_self, or_self, if_true, if_false, reduceIte, not_true_eq_false, not_false_eq_true, Int.reduceEq, Int.reduceNe, Int.reduceLT, Int.reduceLE, Int.reduceAdd, Int.reduceSub, Int.reduceMul, Int.reduceNeg, Nat.reduceAdd, Nat.reduceLeDiff, Nat.reduceEqDiff, ne_eq, List.length_cons, List.length_nil, Nat.reduceSub, ite10_0, ite10_1, ite10_01, Classical.not_not, c1]
    exact this
  induction v with
  | zero => intro _; exact ex 0 (Nat.zero_le p)
  | succ v ih =>
    intro hv H' hH hT
    by_cases h : v + 1 ≤ p
    · exact ex _ h H' hH hT
    · have c1 : ¬ ((v + 1 : Nat) : Int) < ((p + 1 : Nat) : Int) := by omega
      obtain ⟨i1, i2, i3⟩ := ix_w hk20 (show v + 1 ≤ 410 by omega)
      obtain ⟨i4, i5, i6⟩ := ix_w2 hk hk20 (show p + 1 ≤ v + 1 by omega) (show v + 1 ≤ 410 by omega)
      have w9 : w32 (((v + 1 : Nat) : Int) + -1) = (v : Int) := by rw [w32_m1 (by omega) (by omega), Nat.add_sub_cancel]
      have hst := ckT_step hk hkK (show p + 1 ≤ v + 1 by omega) hv hS hT
      rw [Nat.add_sub_cancel] at hst
      have f := hH.f hP
      rw [e_MO_ways_8]
      simp only [k_MO_ways_8, rr, sh, Nat.reduceLT, Nat.reduceMul, Int.reduceToNat, Int.reduceGT, Int.reduceGE, Int.reduceNe, true_and, and_true, true_or, or_true, false_or, or_false, and_self, or_self, if_true, if_false, reduceIte, not_true_eq_false, not_false_eq_true, Int.reduceEq, Int.reduceNe, Int.reduceLT, Int.reduceLE, Int.reduceAdd, Int.reduceSub, Int.reduceMul, Int.reduceNeg, Nat.reduceAdd, Nat.reduceLeDiff, Nat.reduceEqDiff, ne_eq, List.length_cons, List.length_nil, Nat.reduceSub, f, c1, i1, i2, i3, i4, i5, i6, w9]
      clear f
      exact ih (Nat.le_of_succ_le hv) _ (hH.hs (c := 112) (j := 411 * (k : Int) + ((v + 1 : Nat) : Int)) rfl) hst
theorem ckT_all {H : Hp} {c : Int} {K S p : Nat} (h : ckT H c K S p 0 S) : ckT H c K S (p + 1) K S := by
  intro i j hi hj
  have n1 : ¬ (K < i ∨ (i = K ∧ S < j)) := by omega
  rw [if_neg n1]
  by_cases h0 : i = 0
  · subst h0
    have n2 : ¬ (0 < 0 ∨ (0 = 0 ∧ S < j)) := by omega
    rw [h 0 j hi hj, if_neg n2, ck_zero, ck_zero]
  · have n2 : 0 < i ∨ (i = 0 ∧ S < j) := by omega
    rw [h i j hi hj, if_pos n2]
set_option maxRecDepth 20000 in
theorem ways_k (hP : Ptr V) {n S p : Nat} (hp : p < 40) (hn40 : n ≤ 40) (hS : S ≤ 410) {y : AV}
    (hout : ∀ z w H', Vw V H' → ckT H' 112 (n / 2) S (p + 1) (n / 2) S → R d MO_ways (blk MO_ways 6) [va 71, vi n, y, vi S, vi ((p + 1 + 1 : Nat) : Int), z, w] [] H' Q) : ∀ k : Nat, k ≤ n / 2 → ∀ w H', Vw V H' → ckT H' 112 (n / 2) S p k S → R d MO_ways (blk MO_ways 7) [va 71, vi n, y, vi S, vi ((p + 1 : Nat) : Int), vi k, w] [] H' Q := by
  intro k
  induction k with
  | zero =>
    intro _ w H' hH hT
    have := hout (vi ((0 : Nat) : Int)) w H' hH (ckT_all hT)
    have c1 : ((0 : Nat) : Int) ≤ 0 := Int.le_refl 0
    rw [e_MO_ways_7]
    simp only [k_MO_ways_7, e_MO_ways_10, k_MO_ways_10, rr, sh, Nat.reduceLT, Nat.reduceMul, Int.reduceToNat, Int.reduceGT, Int.reduceGE, Int.reduceNe, true_and, and_true, true_or, or_true, false_or, or_false, and_self, or_self, if_true, if_false, reduceIte, not_true_eq_false, not_false_eq_true, Int.reduceEq, Int.reduceNe, Int.reduceLT, Int.reduceLE, Int.reduceAdd, Int.reduceSub, Int.reduceMul, Int.reduceNeg, Nat.reduceAdd, Nat.reduceLeDiff, Nat.reduceEqDiff, ne_eq, List.length_cons, List.length_nil, Nat.reduceSub, ite10_0, ite10_1, ite10_01, Classical.not_not, c1, pl_ix p hp]
    exact this
  | succ k ih =>
    intro hk w H' hH hT
    have c1 : ¬ ((k + 1 : Nat) : Int) ≤ 0 := by omega
    have w9 : w32 (((k + 1 : Nat) : Int) + -1) = (k : Int) := by rw [w32_m1 (by omega) (by omega), Nat.add_sub_cancel]
    rw [e_MO_ways_7]
    simp only [k_MO_ways_7, rr, sh, Nat.reduceLT, Nat.reduceMul, Int.reduceToNat, Int.reduceGT, Int.reduceGE, Int.reduceNe, true_and, and_true, true_or, or_true, false_or, or_false, and_self, or_self, if_true, if_false, reduceIte, not_true_eq_false, not_false_eq_true, Int.reduceEq, Int.reduceNe, Int.reduceLT, Int.reduceLE, Int.reduceAdd, Int.reduceSub, Int.reduceMul, Int.reduceNeg, Nat.reduceAdd, Nat.reduceLeDiff, Nat.reduceEqDiff, ne_eq, List.length_cons, List.length_nil, Nat.reduceSub, ite10_0, ite10_1, ite10_01, Classical.not_not, c1]
    refine ways_v hP (n := n) hp (by omega) hk (by omega) hS (fun v H2 hH2 hT2 => ?_) S (Nat.le_refl S) H' hH hT
    rw [Nat.add_sub_cancel] at hT2
    have := ih (Nat.le_of_succ_le hk) (vi v) H2 hH2 hT2
    simp only [e_MO_ways_9, k_MO_ways_9, rr, sh, Nat.reduceLT, Nat.reduceMul, Int.reduceToNat, Int.reduceGT, Int.reduceGE, Int.reduceNe, true_and, and_true, true_or, or_true, false_or, or_false, and_self, or_self, if_true, if_false, reduceIte, not_true_eq_false, not_false_eq_true, Int.reduceEq, Int.reduceNe, Int.reduceLT, Int.reduceLE, Int.reduceAdd, Int.reduceSub, Int.reduceMul, Int.reduceNeg, Nat.reduceAdd, Nat.reduceLeDiff, Nat.reduceEqDiff, ne_eq, List.length_cons, List.length_nil, Nat.reduceSub, ite10_0, ite10_1, ite10_01, Classical.not_not, w9] <;> clear w9
    exact this
set_option maxRecDepth 20000 in
theorem ways_run (hP : Ptr V) (hH : Vw V H) {n S : Nat} (hn1 : 1 ≤ n) (hn40 : n ≤ 40) (hS : S ≤ 410) (hK : n / 2 ≤ 20) (v7 : w32 ((n : Int).tdiv 2) = ((n / 2 : Nat) : Int)) {y : AV} (hq : ∀ H', Vw V H' → Q (vl (w64 (ck n (n / 2) S))) H') : R d MO_ways (blk MO_ways 4) [va 71, vi n, y, vi S, vi 0, vu, vu] [] H Q := by
  obtain ⟨i1, i2, i3⟩ := ix_w hK hS
  refine up_nat (P := fun k => ∀ H', Vw V H' → (∀ j : Nat, j < k → H' 112 j = 0) → R d MO_ways (blk MO_ways 4) [va 71, vi n, y, vi S, vi k, vu, vu] [] H' Q) ?_ ?_ 0 (Nat.zero_le 8631) H hH (fun j hj => absurd hj (Nat.not_lt_zero j))
  · intro H' hH hz
    have f := hH.f hP
    rw [e_MO_ways_4]
    simp only [k_MO_ways_4, e_MO_ways_5, k_MO_ways_5, rr, sh, Nat.reduceLT, Nat.reduceMul, Int.reduceToNat, Int.reduceGT, Int.reduceGE, Int.reduceNe, true_and, and_true, true_or, or_true, false_or, or_false, and_self, or_self, if_true, if_false, reduceIte, not_true_eq_false, not_false_eq_true, Int.reduceEq, Int.reduceNe, Int.reduceLT, Int.reduceLE, Int.reduceAdd, Int.reduceSub, Int.reduceMul, Int.reduceNeg, Nat.reduceAdd, Nat.reduceLeDiff, Nat.reduceEqDiff, ne_eq, List.length_cons, List.length_nil, Nat.reduceSub, f, Int.le_refl]
    clear f
    refine up_nat (P := fun p => ∀ z w H', Vw V H' → ckT H' 112 (n / 2) S p (n / 2) S → R d MO_ways (blk MO_ways 6) [va 71, vi n, y, vi S, vi ((p + 1 : Nat) : Int), z, w] [] H' Q) ?_ ?_ 0 (Nat.zero_le n) vu vu _ (hH.hs (c := 112) (j := 0) rfl) ?_
    · intro z w H2 hH hT
      have c1 : (n : Int) < ((n + 1 : Nat) : Int) := by omega
      have n1 : ¬ (n / 2 < n / 2 ∨ (n / 2 = n / 2 ∧ S < S)) := by omega
      have hr := hT (n / 2) S (Nat.le_refl _) (Nat.le_refl _)
      rw [if_neg n1] at hr
      have f := hH.f hP
      rw [e_MO_ways_6]
      simp only [k_MO_ways_6, e_MO_ways_11, k_MO_ways_11, rr, sh, Nat.reduceLT, Nat.reduceMul, Int.reduceToNat, Int.reduceGT, Int.reduceGE, Int.reduceNe, true_and, and_true, true_or, or_true, false_or, or_false, and_self, or_self, if_true, if_false, reduceIte, not_true_eq_false, not_false_eq_true, Int.reduceEq, Int.reduceNe, Int.reduceLT, Int.reduceLE, Int.reduceAdd, Int.reduceSub, Int.reduceMul, Int.reduceNeg, Nat.reduceAdd, Nat.reduceLeDiff, Nat.reduceEqDiff, ne_eq, List.length_cons, List.length_nil, Nat.reduceSub, f, c1, v7, i1, i2, i3, hr]
      exact hq H2 hH
    · intro p hp ih z w H2 hH hT
      have c1 : ¬ (n : Int) < ((p + 1 : Nat) : Int) := by omega
      rw [e_MO_ways_6]
      simp only [k_MO_ways_6, rr, sh, Nat.reduceLT, Nat.reduceMul, Int.reduceToNat, Int.reduceGT, Int.reduceGE, Int.reduceNe, true_and, and_true, true_or, or_true, false_or, or_false, and_self, or_self, if_true, if_false, reduceIte, not_true_eq_false, not_false_eq_true, Int.reduceEq, Int.reduceNe, Int.reduceLT, Int.reduceLE, Int.reduceAdd, Int.reduceSub, Int.reduceMul, Int.reduceNeg, Nat.reduceAdd, Nat.reduceLeDiff, Nat.reduceEqDiff, ne_eq, List.length_cons, List.length_nil, Nat.reduceSub, ite10_0, ite10_1, ite10_01, Classical.not_not, c1, v7]
      exact ways_k hP (by omega) hn40 hS (fun z w H3 hH3 hT3 => ih z w H3 hH3 hT3) (n / 2) (Nat.le_refl _) w H2 hH hT
    · intro i j hi hj
      have n1 : ¬ (n / 2 < i ∨ (i = n / 2 ∧ S < j)) := by omega
      rw [if_neg n1]
      show _ = w64 (if i = 0 ∧ j = 0 then 1 else 0)
      rw [hs_app]
      by_cases h0 : i = 0 ∧ j = 0
      · rw [if_pos h0, if_pos ⟨rfl, by omega⟩]; rfl
      · have n2 : ¬ ((112 : Int) = 112 ∧ 411 * (i : Int) + j = 0) := by omega
        have n3 : 411 * i + j < 8631 := by omega
        have := hz (411 * i + j) n3
        rw [if_neg h0, if_neg n2]
        push_cast at this
        rw [this]; rfl
  · intro k hk ih H' hH hz
    have c1 : ¬ (8631 : Int) ≤ k := by omega
    have j1 : 0 ≤ (k : Int) ∧ (k : Int) < 8631 := by omega
    have f := hH.f hP
    rw [e_MO_ways_4]
    simp only [k_MO_ways_4, rr, sh, Nat.reduceLT, Nat.reduceMul, Int.reduceToNat, Int.reduceGT, Int.reduceGE, Int.reduceNe, true_and, and_true, true_or, or_true, false_or, or_false, and_self, or_self, if_true, if_false, reduceIte, not_true_eq_false, not_false_eq_true, Int.reduceEq, Int.reduceNe, Int.reduceLT, Int.reduceLE, Int.reduceAdd, Int.reduceSub, Int.reduceMul, Int.reduceNeg, Nat.reduceAdd, Nat.reduceLeDiff, Nat.reduceEqDiff, ne_eq, List.length_cons, List.length_nil, Nat.reduceSub, f, c1, j1, w32_s (show k < 2147483647 by clear f; omega)]
    clear f
    refine ih _ (hH.hs (c := 112) (j := (k : Int)) rfl) (fun j hj => ?_)
    rw [hs_app]
    by_cases h : j = k
    · rw [if_pos ⟨rfl, by omega⟩]
    · have n2 : ¬ ((112 : Int) = 112 ∧ (j : Int) = k) := by omega
      rw [if_neg n2]; exact hz j (by omega)
set_option maxRecDepth 20000 in
theorem c_waysM (hP : Ptr V) (hH : Vw V H) {n : Int} (hQ : ∀ H', Vw V H' → Q (vl (waysS n)) H') : CC (d + 1) MO_ways [va 71, vi n] H Q := by
  by_cases hn : 1 ≤ n ∧ n ≤ 40
  · have hq : ∀ H', Vw V H' → Q (vl (wayV n.toNat)) H' := fun H' hH => by
      have := hQ H' hH
      unfold waysS at this
      rw [if_pos hn] at this
      exact this
    obtain ⟨n, rfl⟩ := Int.eq_ofNat_of_zero_le (show 0 ≤ n by omega)
    rw [Int.toNat_natCast] at hq
    clear hQ
    have hn40 : n ≤ 40 := by omega
    have w1 : w32 ((n : Int) + 1) = (n : Int) + 1 := w32_id (by omega) (by omega)
    obtain ⟨M, hM, hM2, hM3⟩ := tri_w hn40
    obtain ⟨v1, v2, -⟩ := half_w hM3
    obtain ⟨-, v4, v5⟩ := half_w (show M / 2 ≤ 1640 by clear hM hM2 hq v1 v2; omega)
    obtain ⟨-, v6, v7⟩ := half_w (show n ≤ 1640 by clear hM hM2 hq v1 v2 v4 v5; omega)
    have f := hH.f hP
    simp only [en_MO_ways, e_MO_ways_0, k_MO_ways_0, e_MO_ways_1, k_MO_ways_1, e_MO_ways_2, k_MO_ways_2, e_MO_ways_3, k_MO_ways_3, rr, sh, Nat.reduceLT, Nat.reduceMul, Int.reduceToNat, Int.reduceGT, Int.reduceGE, Int.reduceNe, true_and, and_true, true_or, or_true, false_or, or_false, and_self, or_self, if_true, if_false, reduceIte, not_true_eq_false, not_false_eq_true, Int.reduceEq, Int.reduceNe, Int.reduceLT, Int.reduceLE, Int.reduceAdd, Int.reduceSub, Int.reduceMul, Int.reduceNeg, Nat.reduceAdd, Nat.reduceLeDiff, Nat.reduceEqDiff, ne_eq, List.length_cons, List.length_nil, Nat.reduceSub, ite10_0, ite10_1, ite10_01, Classical.not_not, f, q_isIn, hn, w1, hM2, v1, v2, v4, v5, v7]
    clear f v1 v2 v4 v5
    obtain ⟨t1, t2, t3, t4, t5, t6⟩ := tri_mod n hn40
    rw [hM] at t2 t3 t4 t5
    have z1 : (((n % 2 : Nat) : Int) = 1) = (n % 2 = 1) := nat_one
    have z2 : (((M / 2 % 2 : Nat) : Int) = 1) = (M / 2 % 2 = 1) := nat_one
    simp only [z1, z2]
    unfold wayV at hq
    by_cases p1 : n % 2 = 1
    · rw [if_neg (t1 p1)] at hq
      rw [if_pos p1]; exact hq H hH
    rw [if_neg p1]
    by_cases p2 : M / 2 % 2 = 1
    · rw [if_neg (t2 p1 p2)] at hq
      rw [if_neg (fun q => q p2)]; exact hq H hH
    have hq2 : ∀ H', Vw V H' → Q (vl (w64 (ck n (n / 2) (M / 2 / 2)))) H' := fun H' hH => by
      have := hq H' hH
      rw [if_pos (t3 p1 p2), hM, ← t4] at this
      exact this
    rw [if_pos p2]
    clear z1 z2 p1 p2 t1 t2 t3 t4 hM hM2 hM3 hq
    generalize M / 2 / 2 = S at hq2 t5
    generalize M / 2 = M2
    have hn1 : 1 ≤ n := by omega
    clear hn w1
    exact ways_run hP hH hn1 hn40 t5 t6 v6 hq2
  · have hq := hQ H hH
    unfold waysS at hq
    rw [if_neg hn] at hq
    have f := hH.f hP
    simp only [en_MO_ways, e_MO_ways_0, k_MO_ways_0, rr, sh, Nat.reduceLT, Nat.reduceMul, Int.reduceToNat, Int.reduceGT, Int.reduceGE, Int.reduceNe, true_and, and_true, true_or, or_true, false_or, or_false, and_self, or_self, if_true, if_false, reduceIte, not_true_eq_false, not_false_eq_true, Int.reduceEq, Int.reduceNe, Int.reduceLT, Int.reduceLE, Int.reduceAdd, Int.reduceSub, Int.reduceMul, Int.reduceNeg, Nat.reduceAdd, Nat.reduceLeDiff, Nat.reduceEqDiff, ne_eq, List.length_cons, List.length_nil, Nat.reduceSub, ite10_0, ite10_1, ite10_01, Classical.not_not, f, q_isIn, hn]
    exact hq
end WY
