/-! crooked seats -/
def updA (V : Hp) (k : Nat) (x : Int) : Nat → Int := fun j => if j = k then x else taV V j
def crkB (V : Hp) (k : Nat) : Bool := (fstF (fun i => (unfO V (tsV V) (updA V k ((i : Int) + 1))).isNone) 99).isSome
def crkN (V : Hp) : Nat → Nat
  | 0 => 0
  | n + 1 => if crkB V n = true then crkN V n ||| 1 * 2 ^ n else crkN V n
def crookS (V : Hp) : Int := if unfO V (tsV V) (taV V) = none then 0 else (crkN V (nS V) : Nat)
theorem sum_upd {f g : Nat → Int} {k : Nat} (h : ∀ j, j ≠ k → g j = f j) : ∀ n, sumI g n = sumI f n + (if k < n then g k - f k else 0)
  | 0 => rfl
  | n + 1 => by
    show sumI g n + g n = sumI f n + f n + _
    rw [sum_upd h n]
    by_cases e : n = k
    · subst e
      rw [if_neg (Nat.lt_irrefl n), if_pos (Nat.lt_succ_self n)]
      generalize sumI f n = A
      generalize f n = B
      generalize g n = C
      omega
    · rw [h n e]
      by_cases hk : k < n
      · rw [if_pos hk, if_pos (Nat.lt_succ_of_lt hk)]
        generalize sumI f n = A
        generalize f n = B
        generalize g k = C
        generalize f k = D
        omega
      · have n2 : ¬ k < n + 1 := by omega
        rw [if_neg hk, if_neg n2]
        generalize sumI f n = A
        generalize f n = B
        omega
theorem crkN_lt (V : Hp) : ∀ n, crkN V n < 2 ^ n
  | 0 => Nat.one_pos
  | n + 1 => by
    have ih := crkN_lt V n
    have h2 : 2 ^ n < 2 ^ (n + 1) := Nat.pow_lt_pow_right (by decide) (Nat.lt_succ_self n)
    show (if crkB V n = true then crkN V n ||| 1 * 2 ^ n else crkN V n) < _
    split
    · exact Nat.or_lt_two_pow (Nat.lt_trans ih h2) (by rw [Nat.one_mul]; exact h2)
    · exact Nat.lt_trans ih h2
theorem unfO_cg {V : Hp} {s a a' : Nat → Int} (h : ∀ j, j < mnV V → a j = a' j) : unfO V s a = unfO V s a' := by
  have e : (fun r => !fitB V s a r) = fun r => !fitB V s a' r := by
    funext r
    have : fitG V s a r = fitG V s a' r := by
      unfold fitG
      rw [sumI_cg (g := fitW V s a' r) (fun j hj => by unfold fitW; rw [h j hj])]
    unfold fitB
    rw [this]
  unfold unfO
  rw [e]
theorem fstF_none {p : Nat → Bool} : ∀ n, (fstF p n = none ↔ ∀ i, i < n → p i = false)
  | 0 => ⟨fun _ i hi => absurd hi (Nat.not_lt_zero i), fun _ => rfl⟩
  | n + 1 => by
    have ih := fstF_none (p := p) n
    show (match fstF p n with | some b => some b | none => if p n = true then some n else none) = none ↔ _
    cases hf : fstF p n with
    | none =>
      rw [hf] at ih
      have h1 := ih.mp rfl
      constructor
      · intro h i hi
        rcases Nat.lt_or_ge i n with g | g
        · exact h1 i g
        · have : i = n := by omega
          subst this
          by_cases hp : p i = true
          · simp [hp] at h
          · simpa using hp
      · intro h
        have := h n (Nat.lt_succ_self n)
        simp [this]
    | some b =>
      rw [hf] at ih
      constructor
      · intro h; cases h
      · intro h
        have := ih.mpr (fun i hi => h i (Nat.lt_succ_of_lt hi))
        cases this
theorem unf_none {V : Hp} {s a : Nat → Int} : (unfO V s a = none) ↔ ∀ r, r < nU V → abL (fitG V s a r) ≤ V 99 1 := by
  unfold unfO
  rw [fstF_none]
  constructor
  · intro h r hr
    have := h r hr
    simp only [Bool.not_eq_false'] at this
    exact of_decide_eq_true this
  · intro h r hr
    simp only [Bool.not_eq_false']
    exact decide_eq_true (h r hr)
theorem mul_perm {s p t x a : Int} : s * p * t * (x - a) = s * (t * x * p) - s * (t * a * p) := by
  rw [Int.mul_sub]
  congr 1
  · rw [Int.mul_assoc s p t, Int.mul_assoc s (p * t) x]; congr 1; rw [Int.mul_comm p t, Int.mul_assoc, Int.mul_comm p x, Int.mul_assoc]
  · rw [Int.mul_assoc s p t, Int.mul_assoc s (p * t) a]; congr 1; rw [Int.mul_comm p t, Int.mul_assoc, Int.mul_comm p a, Int.mul_assoc]
theorem fit_upd {V : Hp} {r k : Nat} (hk : k < mnV V) (x : Int) : w64 (fitG V (tsV V) (taV V) r + w64 (w64 (sidV V r k * V 92 (12 + k) ^ pwV V r * tsV V k) * (x - taV V k))) = fitG V (tsV V) (updA V k x) r := by
  have hs := sum_upd (f := fitW V (tsV V) (taV V) r) (g := fitW V (tsV V) (updA V k x) r) (k := k) (fun j hj => by unfold fitW updA; rw [if_neg hj]) (mnV V)
  rw [if_pos hk] at hs
  have e1 : fitW V (tsV V) (updA V k x) r k = sidV V r k * (tsV V k * x * V 92 (12 + k) ^ pwV V r) := by unfold fitW updA; rw [if_pos rfl]
  have e2 : fitW V (tsV V) (taV V) r k = sidV V r k * (tsV V k * taV V k * V 92 (12 + k) ^ pwV V r) := rfl
  unfold fitG
  rw [hs, e1, e2, w64_ml, w64_ar, w64_al, mul_perm]
  congr 1
  generalize sumI (fitW V (tsV V) (taV V) r) (mnV V) = A
  generalize sidV V r k * (tsV V k * x * V 92 (12 + k) ^ pwV V r) = B
  generalize sidV V r k * (tsV V k * taV V k * V 92 (12 + k) ^ pwV V r) = C
  generalize V 104 (8 + (r : Int)) = D
  omega
theorem pw3 {x : Int} (h1 : 1 ≤ x) (h2 : x ≤ 99) {p : Nat} (hp : p < 4) : 1 ≤ x ^ p ∧ x ^ p ≤ 970299 := by
  have a2 : 1 ≤ x * x ∧ x * x ≤ 99 * 99 := ⟨Int.mul_le_mul h1 h1 (by omega) (by omega), Int.mul_le_mul h2 h2 (by omega) (by omega)⟩
  have a3 : 1 ≤ x * x * x ∧ x * x * x ≤ 99 * 99 * 99 := ⟨Int.mul_le_mul a2.1 h1 (by omega) (by omega), Int.mul_le_mul a2.2 h2 (by omega) (by omega)⟩
  match p, hp with
  | 0, _ => rw [Int.pow_zero]; omega
  | 1, _ => rw [Int.pow_succ, Int.pow_zero, Int.one_mul]; omega
  | 2, _ => rw [Int.pow_succ, Int.pow_succ, Int.pow_zero, Int.one_mul]; omega
  | 3, _ => rw [Int.pow_succ, Int.pow_succ, Int.pow_succ, Int.pow_zero, Int.one_mul]; omega
  | p + 4, h => omega
theorem div_arm {s a p : Int} (hs : s = 1 ∨ s = -1 ∨ s = 0) (ha : 1 ≤ a) (ha2 : a ≤ 99) (hp : 1 ≤ p) (hp2 : p ≤ 970299) : w64 (Int.tdiv (w64 (s * (a * p))) a) = s * p := by
  have hm : 0 ≤ a * p ∧ a * p ≤ 99 * 970299 := ⟨Int.mul_nonneg (by omega) (by omega), Int.mul_le_mul ha2 hp2 (by omega) (by omega)⟩
  have e : s * (a * p) = a * (s * p) := by rw [← Int.mul_assoc, Int.mul_comm s a, Int.mul_assoc]
  have hb : -96059601 ≤ s * (a * p) ∧ s * (a * p) ≤ 96059601 := by
    rcases hs with rfl | rfl | rfl
    · rw [Int.one_mul]; omega
    · rw [Int.neg_mul, Int.one_mul]; omega
    · rw [Int.zero_mul]; omega
  have hb2 : -970299 ≤ s * p ∧ s * p ≤ 970299 := by
    rcases hs with rfl | rfl | rfl
    · rw [Int.one_mul]; omega
    · rw [Int.neg_mul, Int.one_mul]; omega
    · rw [Int.zero_mul]; omega
  rw [w64_id (x := s * (a * p)) (by omega) (by omega), e, Int.mul_tdiv_cancel_left _ (by omega)]
  exact w64_id (by omega) (by omega)
theorem sid_rng (V : Hp) (r k : Nat) : sidV V r k = 1 ∨ sidV V r k = -1 ∨ sidV V r k = 0 := by
  unfold sidV
  split
  · exact Or.inl rfl
  · split
    · exact Or.inr (Or.inl rfl)
    · exact Or.inr (Or.inr rfl)
section CK
variable {d : Nat} {V H : Hp} {Q : AV → Hp → Prop}
theorem nxt {n k : Nat} (h : k < n) (hn : n ≤ 100000) : (¬ (n : Int) ≤ k) ∧ w32 ((k : Int) + 1) = ((k + 1 : Nat) : Int) ∧ (0 ≤ (k : Int) ∧ (k : Int) < n) := ⟨by omega, w32_s (by omega), by omega⟩
theorem le12 {k : Nat} (h : k < 12) : 0 ≤ (k : Int) ∧ (k : Int) < 12 := by omega
theorem le8 {k : Nat} (h : k < 8) : 0 ≤ (k : Int) ∧ (k : Int) < 8 := by omega
def pa1 (V : Hp) (k r : Nat) : Int := w64 (sidV V r k * V 92 (12 + k) ^ pwV V r * tsV V k)
set_option maxRecDepth 20000 in
theorem q_allFitWith (hI : Inq V) (hH : Vw V H) {k : Nat} (hk : k < mnV V) (ha : ∀ r : Nat, r < nU V → H 59 r = fitG V (tsV V) (taV V) r) (hb : ∀ r : Nat, r < nU V → H 60 r = pa1 V k r) {x : Int} : CC (d + 1) TR_allFitWith [va 58, va (V 4 0), vi (x - taV V k)] H Q = Q (vi (if unfO V (tsV V) (updA V k x) = none then 1 else 0)) H := by
  refine CC_dt fun Q hQ => ?_
  have hu := hI.boat.u
  have h1 := hI.plan.runs
  have h2 := hI.plan.near
  have z1 := shp hI
  simp only [en_TR_allFitWith, e_TR_allFitWith_0, k_TR_allFitWith_0, rr, sh, Nat.reduceLT, Nat.reduceMul, Int.reduceToNat, Int.reduceGT, Int.reduceGE, Int.reduceNe, true_and, and_true, true_or, or_true, false_or, or_false, and_self, or_self, if_true, if_false, reduceIte, not_true_eq_false, not_false_eq_true, Int.reduceEq, Int.reduceNe, Int.reduceLT, Int.reduceLE, Int.reduceAdd, Int.reduceSub, Int.reduceMul, Int.reduceNeg, Nat.reduceAdd, Nat.reduceLeDiff, Nat.reduceEqDiff, ne_eq, List.length_cons, List.length_nil, Nat.reduceSub, ite10_0, ite10_1, ite10_01, Classical.not_not]
  refine up_nat (P := fun r => (∀ i, i < r → abL (fitG V (tsV V) (updA V k x) i) ≤ V 99 1) → R (d + 1) TR_allFitWith (blk TR_allFitWith 1) [va 58, va (V 4 0), vi (x - taV V k), vi r] [] H Q) ?_ ?_ 0 (Nat.zero_le (nU V)) (fun i hi => absurd hi (Nat.not_lt_zero i))
  · intro hf
    rw [if_pos (unf_none.mpr hf)] at hQ
    rw [e_TR_allFitWith_1]
    have f := hH.f hI.ptr; have g := pl_f hH hI.pp hI.ptr; simp only [k_TR_allFitWith_1, e_TR_allFitWith_3, k_TR_allFitWith_3, rr, sh, Nat.reduceLT, Nat.reduceMul, Int.reduceToNat, Int.reduceGT, Int.reduceGE, Int.reduceNe, true_and, and_true, true_or, or_true, false_or, or_false, and_self, or_self, if_true, if_false, reduceIte, not_true_eq_false, not_false_eq_true, Int.reduceEq, Int.reduceNe, Int.reduceLT, Int.reduceLE, Int.reduceAdd, Int.reduceSub, Int.reduceMul, Int.reduceNeg, Nat.reduceAdd, Nat.reduceLeDiff, Nat.reduceEqDiff, ne_eq, List.length_cons, List.length_nil, Nat.reduceSub, ite10_0, ite10_1, ite10_01, Classical.not_not, f, g, z1, h1, Int.le_refl] <;> clear f g
    exact hQ
  · intro r hr ih hf
    obtain ⟨c1, c2, -⟩ := nxt hr (Nat.le_trans hu.2 (by decide))
    have j1 := le8 (Nat.lt_of_lt_of_le hr hu.2)
    have e1 := ha r hr
    have e2 := hb r hr
    have e3 := fit_upd (r := r) hk x
    rw [e_TR_allFitWith_1]
    have f := hH.f hI.ptr; have g := pl_f hH hI.pp hI.ptr; simp only [k_TR_allFitWith_1, e_TR_allFitWith_2, k_TR_allFitWith_2, rr, sh, Nat.reduceLT, Nat.reduceMul, Int.reduceToNat, Int.reduceGT, Int.reduceGE, Int.reduceNe, true_and, and_true, true_or, or_true, false_or, or_false, and_self, or_self, if_true, if_false, reduceIte, not_true_eq_false, not_false_eq_true, Int.reduceEq, Int.reduceNe, Int.reduceLT, Int.reduceLE, Int.reduceAdd, Int.reduceSub, Int.reduceMul, Int.reduceNeg, Nat.reduceAdd, Nat.reduceLeDiff, Nat.reduceEqDiff, ne_eq, List.length_cons, List.length_nil, Nat.reduceSub, ite10_0, ite10_1, ite10_01, Classical.not_not, f, g, z1, h1, h2, c1, c2, j1, e1, e2, pa1, q_absL, c3_le] <;> clear f g e1 e2
    rw [fit_upd hk x]
    by_cases h : abL (fitG V (tsV V) (updA V k x) r) ≤ V 99 1
    · rw [if_pos h]
      exact ih (fun i hi => by rcases Nat.lt_or_ge i r with g | g; exact hf i g; rw [show i = r from Nat.le_antisymm (Nat.le_of_lt_succ hi) g]; exact h)
    · rw [if_neg h]
      rw [if_neg (fun q => h (unf_none.mp q r hr))] at hQ
      exact hQ
def gapHK (V H : Hp) : Prop := ∀ r : Nat, r < nU V → H 59 r = fitG V (tsV V) (taV V) r
theorem crk_some {V : Hp} {k i : Nat} (hi : i < 99) (h : unfO V (tsV V) (updA V k ((i : Int) + 1)) = none) : crkB V k = true := by
  unfold crkB
  cases hf : fstF (fun i => (unfO V (tsV V) (updA V k ((i : Int) + 1))).isNone) 99 with
  | some b => rfl
  | none =>
    have := (fstF_none 99).mp hf i hi
    have this : (unfO V (tsV V) (updA V k ((i : Int) + 1))).isNone = false := this
    rw [h] at this
    cases this
theorem crk_none {V : Hp} {k : Nat} (h : ∀ i : Nat, i < 99 → ¬ unfO V (tsV V) (updA V k ((i : Int) + 1)) = none) : crkB V k = false := by
  unfold crkB
  rw [(fstF_none (p := fun i => (unfO V (tsV V) (updA V k ((i : Int) + 1))).isNone) 99).mpr (fun i hi => by
    have := h i hi
    cases e : unfO V (tsV V) (updA V k ((i : Int) + 1)) with
    | none => exact absurd e this
    | some b => rfl)]
  rfl
theorem arm_sub {o a : Int} (h1 : 1 ≤ o) (h2 : o ≤ 99) (h3 : 1 ≤ a) (h4 : a ≤ 99) : w32 (o - a) = o - a := w32_id (by omega) (by omega)
theorem gt99 {i : Nat} (h : i < 99) : (¬ (99 : Int) < ((i + 1 : Nat) : Int)) ∧ w32 (((i + 1 : Nat) : Int) + 1) = ((i + 1 + 1 : Nat) : Int) ∧ (1 : Int) ≤ ((i + 1 : Nat) : Int) ∧ ((i + 1 : Nat) : Int) ≤ 99 ∧ ((i + 1 : Nat) : Int) = (i : Int) + 1 := ⟨by omega, w32_s (by omega), by omega, by omega, by omega⟩
set_option maxRecDepth 20000 in
theorem c_canBe (hI : Inq V) (hH : Vw V H) {k : Nat} (hk : k < mnV V) (ha : gapHK V H) (hQ : ∀ H', Vw V H' → gapHK V H' → Q (vi (if crkB V k = true then 1 else 0)) H') : CC (d + 3) TR_canBeCrooked [va 58, va (V 4 0), vi k] H Q := by
  have hu := hI.boat.u
  have hn := hI.boat.s
  have hn2 := hI.boat.r
  have h1 := hI.plan.runs
  have hkS : k < nS V ∧ k < nR V := by unfold mnV at hk; omega
  have h12 : k < 12 := Nat.lt_of_lt_of_le hkS.1 hn.2
  have j0 := le12 h12
  have b1 := hI.boat.arm k hkS.1
  have b2 := hI.boat.place k hkS.1
  have e1 := hI.plan.arm k hkS.1
  have e2 := hI.plan.str k hkS.2
  have na : ¬ V 93 (12 + k) = 0 := by clear e1 e2; omega
  have z1 := shp hI
  have f := hH.f hI.ptr; have g := pl_f hH hI.pp hI.ptr; simp only [en_TR_canBeCrooked, e_TR_canBeCrooked_0, k_TR_canBeCrooked_0, rr, sh, Nat.reduceLT, Nat.reduceMul, Int.reduceToNat, Int.reduceGT, Int.reduceGE, Int.reduceNe, true_and, and_true, true_or, or_true, false_or, or_false, and_self, or_self, if_true, if_false, reduceIte, not_true_eq_false, not_false_eq_true, Int.reduceEq, Int.reduceNe, Int.reduceLT, Int.reduceLE, Int.reduceAdd, Int.reduceSub, Int.reduceMul, Int.reduceNeg, Nat.reduceAdd, Nat.reduceLeDiff, Nat.reduceEqDiff, ne_eq, List.length_cons, List.length_nil, Nat.reduceSub, ite10_0, ite10_1, ite10_01, Classical.not_not, f, g, z1, e1, j0] <;> clear f g e1
  have ke1 := hI.plan.arm k hkS.1
  have ke2 := hI.plan.str k hkS.2
  refine up_nat (P := fun r => ∀ H', Vw V H' → gapHK V H' → (∀ i : Nat, i < r → H' 60 i = pa1 V k i) → R (d + 3) TR_canBeCrooked (blk TR_canBeCrooked 1) [va 58, va (V 4 0), vi k, vi (V 93 (12 + k)), vi r] [] H' Q) ?_ ?_ 0 (Nat.zero_le (nU V)) H hH ha (fun i hi => absurd hi (Nat.not_lt_zero i))
  · intro H1 hH a1 a2
    rw [e_TR_canBeCrooked_1]
    have f := hH.f hI.ptr; have g := pl_f hH hI.pp hI.ptr; simp only [k_TR_canBeCrooked_1, e_TR_canBeCrooked_4, k_TR_canBeCrooked_4, rr, sh, Nat.reduceLT, Nat.reduceMul, Int.reduceToNat, Int.reduceGT, Int.reduceGE, Int.reduceNe, true_and, and_true, true_or, or_true, false_or, or_false, and_self, or_self, if_true, if_false, reduceIte, not_true_eq_false, not_false_eq_true, Int.reduceEq, Int.reduceNe, Int.reduceLT, Int.reduceLE, Int.reduceAdd, Int.reduceSub, Int.reduceMul, Int.reduceNeg, Nat.reduceAdd, Nat.reduceLeDiff, Nat.reduceEqDiff, ne_eq, List.length_cons, List.length_nil, Nat.reduceSub, ite10_0, ite10_1, ite10_01, Classical.not_not, f, g, z1, h1, Int.le_refl] <;> clear f g
    refine up_nat (P := fun i => (∀ j : Nat, j < i → ¬ unfO V (tsV V) (updA V k ((j : Int) + 1)) = none) → R (d + 3) TR_canBeCrooked (blk TR_canBeCrooked 5) [va 58, va (V 4 0), vi k, vi (V 93 (12 + k)), vi ((i + 1 : Nat) : Int)] [] H1 Q) ?_ ?_ 0 (Nat.zero_le 99) (fun j hj => absurd hj (Nat.not_lt_zero j))
    · intro hf
      have hq := hQ H1 hH a1
      rw [crk_none hf] at hq
      have c1 : (99 : Int) < ((99 + 1 : Nat) : Int) := by decide
      rw [e_TR_canBeCrooked_5]
      simp only [k_TR_canBeCrooked_5, e_TR_canBeCrooked_7, k_TR_canBeCrooked_7, rr, sh, Nat.reduceLT, Nat.reduceMul, Int.reduceToNat, Int.reduceGT, Int.reduceGE, Int.reduceNe, true_and, and_true, true_or, or_true, false_or, or_false, and_self, or_self, if_true, if_false, reduceIte, not_true_eq_false, not_false_eq_true, Int.reduceEq, Int.reduceNe, Int.reduceLT, Int.reduceLE, Int.reduceAdd, Int.reduceSub, Int.reduceMul, Int.reduceNeg, Nat.reduceAdd, Nat.reduceLeDiff, Nat.reduceEqDiff, ne_eq, List.length_cons, List.length_nil, Nat.reduceSub, ite10_0, ite10_1, ite10_01, Classical.not_not, c1]
      exact hq
    · intro i hi ih hf
      obtain ⟨c1, c2, c3, c4, c5⟩ := gt99 hi
      have w1 := arm_sub c3 c4 b1.1 b1.2
      have hx := @q_allFitWith (d + 1) V H1
      rw [e_TR_canBeCrooked_5]
      have f := hH.f hI.ptr; have g := pl_f hH hI.pp hI.ptr; simp only [k_TR_canBeCrooked_5, e_TR_canBeCrooked_6, k_TR_canBeCrooked_6, rr, sh, Nat.reduceLT, Nat.reduceMul, Int.reduceToNat, Int.reduceGT, Int.reduceGE, Int.reduceNe, true_and, and_true, true_or, or_true, false_or, or_false, and_self, or_self, if_true, if_false, reduceIte, not_true_eq_false, not_false_eq_true, Int.reduceEq, Int.reduceNe, Int.reduceLT, Int.reduceLE, Int.reduceAdd, Int.reduceSub, Int.reduceMul, Int.reduceNeg, Nat.reduceAdd, Nat.reduceLeDiff, Nat.reduceEqDiff, ne_eq, List.length_cons, List.length_nil, Nat.reduceSub, ite10_0, ite10_1, ite10_01, Classical.not_not, f, g, c1, w1] <;> clear f g w1
      have hqa := q_allFitWith (d := d + 1) (Q := fun r H2 => R (d + 3) TR_canBeCrooked [x_ifeq 6, x_ic 1, x_rz] [va 58, va (V 4 0), vi k, vi (V 93 (12 + k)), vi ((i + 1 : Nat) : Int)] [r] H2 Q) hI hH hk a1 a2 (x := ((i + 1 : Nat) : Int))
      refine hqa.mpr ?_
      by_cases h : unfO V (tsV V) (updA V k ((i + 1 : Nat) : Int)) = none
      · rw [if_pos h]
        have hq := hQ H1 hH a1
        rw [crk_some hi (by rw [← c5]; exact h)] at hq
        simp only [rr, sh, Nat.reduceLT, Nat.reduceMul, Int.reduceToNat, Int.reduceGT, Int.reduceGE, Int.reduceNe, true_and, and_true, true_or, or_true, false_or, or_false, and_self, or_self, if_true, if_false, reduceIte, not_true_eq_false, not_false_eq_true, Int.reduceEq, Int.reduceNe, Int.reduceLT, Int.reduceLE, Int.reduceAdd, Int.reduceSub, Int.reduceMul, Int.reduceNeg, Nat.reduceAdd, Nat.reduceLeDiff, Nat.reduceEqDiff, ne_eq, List.length_cons, List.length_nil, Nat.reduceSub, ite10_0, ite10_1, ite10_01, Classical.not_not]
        exact hq
      · rw [if_neg h]
        have := ih (fun j hj => by rcases Nat.lt_or_ge j i with g | g; exact hf j g; rw [show j = i from Nat.le_antisymm (Nat.le_of_lt_succ hj) g, ← c5]; exact h)
        simp only [e_TR_canBeCrooked_6, k_TR_canBeCrooked_6, rr, sh, Nat.reduceLT, Nat.reduceMul, Int.reduceToNat, Int.reduceGT, Int.reduceGE, Int.reduceNe, true_and, and_true, true_or, or_true, false_or, or_false, and_self, or_self, if_true, if_false, reduceIte, not_true_eq_false, not_false_eq_true, Int.reduceEq, Int.reduceNe, Int.reduceLT, Int.reduceLE, Int.reduceAdd, Int.reduceSub, Int.reduceMul, Int.reduceNeg, Nat.reduceAdd, Nat.reduceLeDiff, Nat.reduceEqDiff, ne_eq, List.length_cons, List.length_nil, Nat.reduceSub, ite10_0, ite10_1, ite10_01, Classical.not_not, c2]
        exact this
  · intro r hr ih H1 hH a1 a2
    obtain ⟨c1, c2, -⟩ := nxt hr (Nat.le_trans hu.2 (by decide))
    have j1 := le8 (Nat.lt_of_lt_of_le hr hu.2)
    obtain ⟨p1, p2⟩ := pw_lt hI.m hr
    have pp := pw3 b2.1 b2.2 p2
    have w1 : w64 (Int.tdiv (w64 (sidV V r k * lvr V (pwV V r) k)) (V 93 (12 + k))) = sidV V r k * V 92 (12 + k) ^ pwV V r := div_arm (sid_rng V r k) b1.1 b1.2 pp.1 pp.2
    have j2 := j0
    rw [e_TR_canBeCrooked_1]
    have f := hH.f hI.ptr; have g := pl_f hH hI.pp hI.ptr; simp only [k_TR_canBeCrooked_1, e_TR_canBeCrooked_2, k_TR_canBeCrooked_2, e_TR_canBeCrooked_3, k_TR_canBeCrooked_3, rr, sh, Nat.reduceLT, Nat.reduceMul, Int.reduceToNat, Int.reduceGT, Int.reduceGE, Int.reduceNe, true_and, and_true, true_or, or_true, false_or, or_false, and_self, or_self, if_true, if_false, reduceIte, not_true_eq_false, not_false_eq_true, Int.reduceEq, Int.reduceNe, Int.reduceLT, Int.reduceLE, Int.reduceAdd, Int.reduceSub, Int.reduceMul, Int.reduceNeg, Nat.reduceAdd, Nat.reduceLeDiff, Nat.reduceEqDiff, ne_eq, List.length_cons, List.length_nil, Nat.reduceSub, ite10_0, ite10_1, ite10_01, Classical.not_not, f, g, z1, h1, c1, c2, j1, j2, na, q_runLever hI hH hr hk, w1, ke2] <;> clear f g w1
    refine ih _ (hH.hs (c := 60) (j := (r : Int)) rfl) (fun i hi => by rw [hs_ne (by decide)]; exact a1 i hi) (fun i hi => ?_)
    rw [hs_app]
    by_cases h : i = r
    · rw [if_pos ⟨rfl, congrArg _ h⟩, h]; rfl
    · rw [if_neg (fun q => h (Int.ofNat_inj.mp q.2))]; exact a2 i (Nat.lt_of_le_of_ne (Nat.le_of_lt_succ hi) h)
end CK
