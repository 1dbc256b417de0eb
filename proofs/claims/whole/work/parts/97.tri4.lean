/-! strengths: verdicts, all rows, the last rower -/
def nevT (V : Hp) (gp : Nat → Int) (k r : Nat) : Prop := gp r + hiB V r k (nR V - k) < -V 99 1 ∨ V 99 1 < gp r + loB V r k (nR V - k)
def alwT (V : Hp) (gp : Nat → Int) (k r : Nat) : Prop := -V 99 1 ≤ gp r + loB V r k (nR V - k) ∧ gp r + hiB V r k (nR V - k) ≤ V 99 1
theorem lohi (V : Hp) (r k : Nat) : ∀ j, loB V r k j ≤ hiB V r k j := fun j => by
  have := sum_bnd (V := V) (r := r) (k := k) (t := fun _ => 1) (j := j) (fun _ _ => by decide)
  exact Int.le_trans this.1 this.2
theorem lohi_rng {V : Hp} (hM : Inm V) {r k : Nat} (hr : r < nU V) : ∀ j, j ≤ 6 → -90000000000 ≤ loB V r k j ∧ hiB V r k j ≤ 90000000000 := by
  have h : ∀ j : Nat, -(9 * bX * j) ≤ loB V r k j ∧ hiB V r k j ≤ 9 * bX * j := by
    intro j
    induction j with
    | zero => exact ⟨by show -(9 * bX * 0) ≤ (0 : Int); decide, by show (0 : Int) ≤ 9 * bX * 0; decide⟩
    | succ j ih =>
      have ha := aTr_rng hM (k := k + j) hr
      have e : 9 * bX * ((j + 1 : Nat) : Int) = 9 * bX * j + 9 * bX := by push_cast; grind
      rw [e]
      show _ ≤ loB V r k j + min (aTr V r (k + j) * 1) (aTr V r (k + j) * 9) ∧ hiB V r k j + max (aTr V r (k + j) * 1) (aTr V r (k + j) * 9) ≤ _
      generalize 9 * bX * (j : Int) = y at ih ⊢
      unfold bX at ha ⊢
      omega
  intro j hj
  have := h j
  have h2 : 9 * bX * (j : Int) ≤ 9 * bX * 6 := Int.mul_le_mul_of_nonneg_left (Int.ofNat_le.mpr hj) (by decide)
  have h3 : (9 : Int) * bX * 6 ≤ 90000000000 := by decide
  generalize 9 * bX * (j : Int) = y at *
  omega
section TV
variable {d : Nat} {V H : Hp} {Q : AV → Hp → Prop}
set_option maxRecDepth 20000 in
theorem c_verdict (hI : Inq V) {gp : Nat → Int} (hT : TrS V H gp) (hnR : nR V ≤ 6) {k : Nat} (hk : k ≤ nR V) (hB : ∀ r, r < nU V → -90000000000 ≤ gp r ∧ gp r ≤ 90000000000) (hN : (∃ r, r < nU V ∧ nevT V gp k r) → Q (vi 0) H) (hA : (∀ r, r < nU V → alwT V gp k r) → Q (vi 2) H) (hP : (∀ r, r < nU V → ¬ nevT V gp k r) → Q (vi 1) H) : CC d TR_verdictFrom [va 58, va (V 4 0), vi k] H Q := by
  have hu := hI.boat.u
  have hnr := hI.boat.near
  have z1 := shp hI
  obtain ⟨h1, h2, h3, h4⟩ := hT
  obtain ⟨f1, f2, f3, f4, f5, f6, f7, f8, f9⟩ := trF hI h1
  have wn : w64 (-(V 99 1)) = -(V 99 1) := w64_id (by clear h2 h3 h4 z1 f7 f8 f9 hN hA hP hB; omega) (by clear h2 h3 h4 z1 f7 f8 f9 hN hA hP hB; omega)
  simp only [en_TR_verdictFrom, e_TR_verdictFrom_0, k_TR_verdictFrom_0, rr, sh, Nat.reduceLT, Nat.reduceMul, Int.reduceToNat, Int.reduceGT, Int.reduceGE, Int.reduceNe, true_and, and_true, true_or, or_true, false_or, or_false, and_self, or_self, if_true, if_false, reduceIte, not_true_eq_false, not_false_eq_true, Int.reduceEq, Int.reduceNe, Int.reduceLT, Int.reduceLE, Int.reduceAdd, Int.reduceSub, Int.reduceMul, Int.reduceNeg, Nat.reduceAdd, Nat.reduceLeDiff, Nat.reduceEqDiff, ne_eq, List.length_cons, List.length_nil, Nat.reduceSub, z1, f8]
  refine up_nat (P := fun r => ∀ (v : Int) (y7 y8 y9 y10 y11 : AV), ((v = 2 ∧ ∀ r', r' < r → alwT V gp k r') ∨ (v = 1 ∧ ∀ r', r' < r → ¬ nevT V gp k r')) → R d TR_verdictFrom (blk TR_verdictFrom 1) [va 58, va (V 4 0), vi k, vl (V 99 1), vu, vi v, vi r, y7, y8, y9, y10, y11] [] H Q) ?_ ?_ 0 (Nat.zero_le (nU V)) 2 vu vu vu vu vu (Or.inl ⟨rfl, fun r' hr' => absurd hr' (Nat.not_lt_zero r')⟩)
  · intro v y7 y8 y9 y10 y11 hv
    rw [e_TR_verdictFrom_1]
    simp only [k_TR_verdictFrom_1, e_TR_verdictFrom_6, k_TR_verdictFrom_6, rr, sh, Nat.reduceLT, Nat.reduceMul, Int.reduceToNat, Int.reduceGT, Int.reduceGE, Int.reduceNe, true_and, and_true, true_or, or_true, false_or, or_false, and_self, or_self, if_true, if_false, reduceIte, not_true_eq_false, not_false_eq_true, Int.reduceEq, Int.reduceNe, Int.reduceLT, Int.reduceLE, Int.reduceAdd, Int.reduceSub, Int.reduceMul, Int.reduceNeg, Nat.reduceAdd, Nat.reduceLeDiff, Nat.reduceEqDiff, ne_eq, List.length_cons, List.length_nil, Nat.reduceSub, z1, f9, Int.le_refl]
    rcases hv with ⟨rfl, hv⟩ | ⟨rfl, hv⟩
    · exact hA hv
    · exact hP hv
  · intro r hr ih v y7 y8 y9 y10 y11 hv
    have c1 : ¬ (nU V : Int) ≤ r := by clear ih hv h2 h3 h4 z1 f7 f8 f9 hN hA hP hB wn; omega
    have jr : 0 ≤ (r : Int) ∧ (r : Int) < 8 := by clear ih hv h2 h3 h4 z1 f7 f8 f9 hN hA hP hB wn; omega
    have kr := w32_s (n := r) (by clear ih hv h2 h3 h4 z1 f7 f8 f9 hN hA hP hB wn; omega)
    have wi : w32 (w32 ((r : Int) * 7) + k) = ((7 * r + k : Nat) : Int) := by
      rw [w32_id (x := (r : Int) * 7) (by clear ih hv h2 h3 h4 z1 f7 f8 f9 hN hA hP hB wn kr; omega) (by clear ih hv h2 h3 h4 z1 f7 f8 f9 hN hA hP hB wn kr; omega), w32_id (by clear ih hv h2 h3 h4 z1 f7 f8 f9 hN hA hP hB wn kr; omega) (by clear ih hv h2 h3 h4 z1 f7 f8 f9 hN hA hP hB wn kr; omega)]
      clear ih hv h2 h3 h4 z1 f7 f8 f9 hN hA hP hB wn kr; omega
    have ji : 0 ≤ ((7 * r + k : Nat) : Int) ∧ ((7 * r + k : Nat) : Int) < 56 := by clear ih hv h2 h3 h4 z1 f7 f8 f9 hN hA hP hB wn kr wi; omega
    have e59 := h2 r hr
    obtain ⟨e62, e63⟩ := h4 r k hr hk
    have hg := hB r hr
    have hlh := lohi V r k (nR V - k)
    have hlr := lohi_rng hI.m (k := k) hr (nR V - k) (Nat.le_trans (Nat.sub_le _ _) hnR)
    have w1 : w64 (gp r + loB V r k (nR V - k)) = gp r + loB V r k (nR V - k) := by
      generalize loB V r k (nR V - k) = x at *
      generalize hiB V r k (nR V - k) = y at *
      exact w64_id (by clear ih hv h2 h3 h4 z1 f7 f8 f9 hN hA hP hB wn kr wi e59 e62 e63; omega) (by clear ih hv h2 h3 h4 z1 f7 f8 f9 hN hA hP hB wn kr wi e59 e62 e63; omega)
    have w2 : w64 (gp r + hiB V r k (nR V - k)) = gp r + hiB V r k (nR V - k) := by
      generalize loB V r k (nR V - k) = x at *
      generalize hiB V r k (nR V - k) = y at *
      exact w64_id (by clear ih hv h2 h3 h4 z1 f7 f8 f9 hN hA hP hB wn kr wi e59 e62 e63; omega) (by clear ih hv h2 h3 h4 z1 f7 f8 f9 hN hA hP hB wn kr wi e59 e62 e63; omega)
    have hex : ∀ (P : Nat → Prop), (∀ r', r' < r → P r') → P r → ∀ r', r' < r + 1 → P r' := fun P a b r' hr' => by
      by_cases e : r' = r
      · subst e; exact b
      · exact a r' (Nat.lt_of_le_of_ne (Nat.le_of_lt_succ hr') e)
    have hna : ∀ r', r' < nU V → alwT V gp k r' → ¬ nevT V gp k r' := fun r' hr' a b => by
      have := lohi V r' k (nR V - k)
      unfold alwT at a
      unfold nevT at b
      clear ih hv h2 h3 h4 z1 f7 f8 f9 hN hA hP hB wn kr wi e59 e62 e63 w1 w2
      omega
    have hv1 : ∀ r', r' < r → ¬ nevT V gp k r' := fun r' hr' => by
      rcases hv with ⟨_, hv⟩ | ⟨_, hv⟩
      · exact hna r' (Nat.lt_trans hr' hr) (hv r' hr')
      · exact hv r' hr'
    rw [e_TR_verdictFrom_1]
    by_cases n1 : gp r + hiB V r k (nR V - k) < -V 99 1
    · simp only [k_TR_verdictFrom_1, e_TR_verdictFrom_2, k_TR_verdictFrom_2, e_TR_verdictFrom_3, k_TR_verdictFrom_3, e_TR_verdictFrom_4, k_TR_verdictFrom_4, e_TR_verdictFrom_5, k_TR_verdictFrom_5, rr, sh, Nat.reduceLT, Nat.reduceMul, Int.reduceToNat, Int.reduceGT, Int.reduceGE, Int.reduceNe, true_and, and_true, true_or, or_true, false_or, or_false, and_self, or_self, if_true, if_false, reduceIte, not_true_eq_false, not_false_eq_true, Int.reduceEq, Int.reduceNe, Int.reduceLT, Int.reduceLE, Int.reduceAdd, Int.reduceSub, Int.reduceMul, Int.reduceNeg, Nat.reduceAdd, Nat.reduceLeDiff, Nat.reduceEqDiff, ne_eq, List.length_cons, List.length_nil, Nat.reduceSub, z1, f9, c1, wi, f1, f3, f4, jr, ji, e59, e62, e63, w1, w2, wn, c3_lt, n1]
      exact hN ⟨r, hr, Or.inl n1⟩
    · by_cases n2 : gp r + loB V r k (nR V - k) ≤ V 99 1
      · have hnn : ¬ nevT V gp k r := fun z => z.elim n1 (fun q => absurd q (Int.not_lt.mpr n2))
        have hv1' := hex _ hv1 hnn
        by_cases n3 : gp r + loB V r k (nR V - k) < -V 99 1
        · simp only [k_TR_verdictFrom_1, e_TR_verdictFrom_2, k_TR_verdictFrom_2, e_TR_verdictFrom_3, k_TR_verdictFrom_3, e_TR_verdictFrom_4, k_TR_verdictFrom_4, e_TR_verdictFrom_5, k_TR_verdictFrom_5, rr, sh, Nat.reduceLT, Nat.reduceMul, Int.reduceToNat, Int.reduceGT, Int.reduceGE, Int.reduceNe, true_and, and_true, true_or, or_true, false_or, or_false, and_self, or_self, if_true, if_false, reduceIte, not_true_eq_false, not_false_eq_true, Int.reduceEq, Int.reduceNe, Int.reduceLT, Int.reduceLE, Int.reduceAdd, Int.reduceSub, Int.reduceMul, Int.reduceNeg, Nat.reduceAdd, Nat.reduceLeDiff, Nat.reduceEqDiff, ne_eq, List.length_cons, List.length_nil, Nat.reduceSub, z1, f9, c1, wi, f1, f3, f4, jr, ji, e59, e62, e63, w1, w2, wn, c3_lt, c3_le, n1, n2, n3, kr]
          exact ih 1 _ _ _ _ _ (Or.inr ⟨rfl, hv1'⟩)
        · by_cases n4 : gp r + hiB V r k (nR V - k) ≤ V 99 1
          · simp only [k_TR_verdictFrom_1, e_TR_verdictFrom_2, k_TR_verdictFrom_2, e_TR_verdictFrom_3, k_TR_verdictFrom_3, e_TR_verdictFrom_4, k_TR_verdictFrom_4, e_TR_verdictFrom_5, k_TR_verdictFrom_5, rr, sh, Nat.reduceLT, Nat.reduceMul, Int.reduceToNat, Int.reduceGT, Int.reduceGE, Int.reduceNe, true_and, and_true, true_or, or_true, false_or, or_false, and_self, or_self, if_true, if_false, reduceIte, not_true_eq_false, not_false_eq_true, Int.reduceEq, Int.reduceNe, Int.reduceLT, Int.reduceLE, Int.reduceAdd, Int.reduceSub, Int.reduceMul, Int.reduceNeg, Nat.reduceAdd, Nat.reduceLeDiff, Nat.reduceEqDiff, ne_eq, List.length_cons, List.length_nil, Nat.reduceSub, z1, f9, c1, wi, f1, f3, f4, jr, ji, e59, e62, e63, w1, w2, wn, c3_lt, c3_le, n1, n2, n3, n4, kr]
            refine ih v _ _ _ _ _ ?_
            rcases hv with ⟨hv0, hv⟩ | ⟨hv0, hv⟩
            · exact Or.inl ⟨hv0, hex _ hv ⟨Int.not_lt.mp n3, n4⟩⟩
            · exact Or.inr ⟨hv0, hv1'⟩
          · simp only [k_TR_verdictFrom_1, e_TR_verdictFrom_2, k_TR_verdictFrom_2, e_TR_verdictFrom_3, k_TR_verdictFrom_3, e_TR_verdictFrom_4, k_TR_verdictFrom_4, e_TR_verdictFrom_5, k_TR_verdictFrom_5, rr, sh, Nat.reduceLT, Nat.reduceMul, Int.reduceToNat, Int.reduceGT, Int.reduceGE, Int.reduceNe, true_and, and_true, true_or, or_true, false_or, or_false, and_self, or_self, if_true, if_false, reduceIte, not_true_eq_false, not_false_eq_true, Int.reduceEq, Int.reduceNe, Int.reduceLT, Int.reduceLE, Int.reduceAdd, Int.reduceSub, Int.reduceMul, Int.reduceNeg, Nat.reduceAdd, Nat.reduceLeDiff, Nat.reduceEqDiff, ne_eq, List.length_cons, List.length_nil, Nat.reduceSub, z1, f9, c1, wi, f1, f3, f4, jr, ji, e59, e62, e63, w1, w2, wn, c3_lt, c3_le, n1, n2, n3, n4, kr]
            exact ih 1 _ _ _ _ _ (Or.inr ⟨rfl, hv1'⟩)
      · simp only [k_TR_verdictFrom_1, e_TR_verdictFrom_2, k_TR_verdictFrom_2, e_TR_verdictFrom_3, k_TR_verdictFrom_3, e_TR_verdictFrom_4, k_TR_verdictFrom_4, e_TR_verdictFrom_5, k_TR_verdictFrom_5, rr, sh, Nat.reduceLT, Nat.reduceMul, Int.reduceToNat, Int.reduceGT, Int.reduceGE, Int.reduceNe, true_and, and_true, true_or, or_true, false_or, or_false, and_self, or_self, if_true, if_false, reduceIte, not_true_eq_false, not_false_eq_true, Int.reduceEq, Int.reduceNe, Int.reduceLT, Int.reduceLE, Int.reduceAdd, Int.reduceSub, Int.reduceMul, Int.reduceNeg, Nat.reduceAdd, Nat.reduceLeDiff, Nat.reduceEqDiff, ne_eq, List.length_cons, List.length_nil, Nat.reduceSub, z1, f9, c1, wi, f1, f3, f4, jr, ji, e59, e62, e63, w1, w2, wn, c3_lt, c3_le, n1, n2]
        exact hN ⟨r, hr, Or.inr (Int.not_le.mp n2)⟩
set_option maxRecDepth 20000 in
theorem c_allRows (hI : Inq V) {gp : Nat → Int} (hT : TrS V H gp) (hnR : nR V ≤ 6) {k : Nat} (hk : k ≤ nR V) (hQ : ∀ H', TrS V H' gp → (∀ q : Nat, q < k → H' 64 q = H 64 q ∧ H' 65 q = H 65 q) → (∀ q : Nat, k ≤ q → q < nR V → H' 64 q = min (H 64 q) 1 ∧ H' 65 q = max (H 65 q) 9) → Q (vi ((9 ^ (nR V - k) : Nat) : Int)) H') : CC (d + 2) TR_allRowsFrom [va 58, va (V 4 0), vi k] H Q := by
  have z1 := shp hI
  simp only [en_TR_allRowsFrom, e_TR_allRowsFrom_0, k_TR_allRowsFrom_0, rr, sh, Nat.reduceLT, Nat.reduceMul, Int.reduceToNat, Int.reduceGT, Int.reduceGE, Int.reduceNe, true_and, and_true, true_or, or_true, false_or, or_false, and_self, or_self, if_true, if_false, reduceIte, not_true_eq_false, not_false_eq_true, Int.reduceEq, Int.reduceNe, Int.reduceLT, Int.reduceLE, Int.reduceAdd, Int.reduceSub, Int.reduceMul, Int.reduceNeg, Nat.reduceAdd, Nat.reduceLeDiff, Nat.reduceEqDiff, ne_eq, List.length_cons, List.length_nil, Nat.reduceSub]
  refine up_nat (P := fun i => k ≤ i → ∀ H', TrS V H' gp → (∀ q : Nat, q < k → H' 64 q = H 64 q ∧ H' 65 q = H 65 q) → (∀ q : Nat, k ≤ q → q < i → H' 64 q = min (H 64 q) 1 ∧ H' 65 q = max (H 65 q) 9) → (∀ q : Nat, i ≤ q → H' 64 q = H 64 q ∧ H' 65 q = H 65 q) → R (d + 2) TR_allRowsFrom (blk TR_allRowsFrom 1) [va 58, va (V 4 0), vi k, vi ((9 ^ (i - k) : Nat) : Int), vi i] [] H' Q) ?_ ?_ k hk (Nat.le_refl k) H hT (fun _ _ => ⟨rfl, rfl⟩) (fun q q1 q2 => absurd (Nat.lt_of_le_of_lt q1 q2) (Nat.lt_irrefl _)) (fun _ _ => ⟨rfl, rfl⟩) |> fun z => by rw [Nat.sub_self] at z; exact z
  · intro _ H' a1 a2 a3 a4
    rw [e_TR_allRowsFrom_1]
    simp only [k_TR_allRowsFrom_1, e_TR_allRowsFrom_2, k_TR_allRowsFrom_2, rr, sh, Nat.reduceLT, Nat.reduceMul, Int.reduceToNat, Int.reduceGT, Int.reduceGE, Int.reduceNe, true_and, and_true, true_or, or_true, false_or, or_false, and_self, or_self, if_true, if_false, reduceIte, not_true_eq_false, not_false_eq_true, Int.reduceEq, Int.reduceNe, Int.reduceLT, Int.reduceLE, Int.reduceAdd, Int.reduceSub, Int.reduceMul, Int.reduceNeg, Nat.reduceAdd, Nat.reduceLeDiff, Nat.reduceEqDiff, ne_eq, List.length_cons, List.length_nil, Nat.reduceSub, z1, (trF hI a1.1).2.2.2.2.2.2.1, Int.le_refl]
    exact hQ H' a1 a2 a3
  · intro i hi ih hki H' a1 a2 a3 a4
    have c1 : ¬ (nR V : Int) ≤ i := Int.not_le.mpr (Int.ofNat_lt.mpr hi)
    have i6 : i < 6 := Nat.lt_of_lt_of_le hi hnR
    have ki := w32_s (n := i) (Nat.lt_trans i6 (by decide))
    have hp : 9 ^ (i - k) ≤ 9 ^ 5 := Nat.pow_le_pow_right (by decide) (Nat.le_trans (Nat.sub_le _ _) (Nat.le_of_lt_succ i6))
    have wm : w32 (((9 ^ (i - k) : Nat) : Int) * 9) = ((9 ^ (i + 1 - k) : Nat) : Int) := by
      rw [show i + 1 - k = i - k + 1 from Nat.succ_sub hki, Nat.pow_succ]
      generalize 9 ^ (i - k) = y at hp ⊢
      rw [w32_id (by clear ih a2 a3 a4 z1 ki; omega) (by clear ih a2 a3 a4 z1 ki; omega)]
      push_cast; rfl
    rw [e_TR_allRowsFrom_1]
    simp only [k_TR_allRowsFrom_1, rr, sh, Nat.reduceLT, Nat.reduceMul, Int.reduceToNat, Int.reduceGT, Int.reduceGE, Int.reduceNe, true_and, and_true, true_or, or_true, false_or, or_false, and_self, or_self, if_true, if_false, reduceIte, not_true_eq_false, not_false_eq_true, Int.reduceEq, Int.reduceNe, Int.reduceLT, Int.reduceLE, Int.reduceAdd, Int.reduceSub, Int.reduceMul, Int.reduceNeg, Nat.reduceAdd, Nat.reduceLeDiff, Nat.reduceEqDiff, ne_eq, List.length_cons, List.length_nil, Nat.reduceSub, z1, (trF hI a1.1).2.2.2.2.2.2.1, c1, q_note hI a1.1 i6, wm, ki]
    refine ih (Nat.le_succ_of_le hki) _ a1.nt (fun q hq => ?_) (fun q q1 q2 => ?_) (fun q hq => ?_)
    · have e : ¬ q = i := fun z => absurd hq (by rw [z]; exact Nat.not_lt.mpr hki)
      rw [(ntS_at).1, (ntS_at).2, if_neg e, if_neg e]
      exact a2 q hq
    · rw [(ntS_at).1, (ntS_at).2]
      by_cases e : q = i
      · rw [if_pos e, if_pos e, e, (a4 i (Nat.le_refl i)).1, (a4 i (Nat.le_refl i)).2]
        exact ⟨rfl, rfl⟩
      · rw [if_neg e, if_neg e]
        exact a3 q q1 (Nat.lt_of_le_of_ne (Nat.le_of_lt_succ q2) e)
    · have e : ¬ q = i := fun z => absurd hq (by rw [z]; exact Nat.not_succ_le_self i)
      rw [(ntS_at).1, (ntS_at).2, if_neg e, if_neg e]
      exact a4 q (Nat.le_of_succ_le hq)
theorem div_rng {a z : Int} (hz : 1 ≤ z) (ha : -100000000000 ≤ a ∧ a ≤ 100000000000) : -100000000001 ≤ a / z ∧ a / z ≤ 100000000001 := by
  have h1 := Int.ediv_mul_le a (show z ≠ 0 by omega)
  have h2 := Int.lt_ediv_add_one_mul_self a (show 0 < z by omega)
  constructor
  · by_cases c : -100000000001 ≤ a / z
    · exact c
    · have : (a / z + 1) * z ≤ (a / z + 1) * 1 := Int.mul_le_mul_of_nonpos_left (by omega) hz
      omega
  · by_cases c : a / z ≤ 100000000001
    · exact c
    · have : a / z * 1 ≤ a / z * z := Int.mul_le_mul_of_nonneg_left hz (by omega)
      omega
theorem cnt_ivn : (List.range 10).all (fun a => (List.range 10).all (fun b => !decide (1 ≤ a ∧ a ≤ b) || decide (sumI (fun x : Nat => if ((a : Int) ≤ (x : Int) + 1 ∧ (x : Int) + 1 ≤ (b : Int)) then 1 else 0) 9 = (b : Int) - a + 1))) = true := by decide +kernel
theorem cnt_iv {f t : Int} (h1 : 1 ≤ f) (h2 : t ≤ 9) (h : f ≤ t) : sumI (fun x : Nat => if (f ≤ (x : Int) + 1 ∧ (x : Int) + 1 ≤ t) then 1 else 0) 9 = t - f + 1 := by
  obtain ⟨a, rfl⟩ := Int.eq_ofNat_of_zero_le (show 0 ≤ f by omega)
  obtain ⟨b, rfl⟩ := Int.eq_ofNat_of_zero_le (show 0 ≤ t by omega)
  have := List.all_eq_true.mp (List.all_eq_true.mp cnt_ivn a (List.mem_range.mpr (by omega))) b (List.mem_range.mpr (by omega))
  have hc : 1 ≤ a ∧ a ≤ b := ⟨by omega, by omega⟩
  rw [decide_eq_true hc] at this
  exact of_decide_eq_true this
set_option maxRecDepth 20000 in
theorem c_rowsLast (hI : Inq V) {gp : Nat → Int} (hT : TrS V H gp) (hnR : nR V ≤ 6) {k : Nat} (hk : k + 1 = nR V) (hB : ∀ r, r < nU V → -90000000000 ≤ gp r ∧ gp r ≤ 90000000000) (h0 : ∀ r, r < nU V → aTr V r k = 0 → -V 99 1 ≤ gp r ∧ gp r ≤ V 99 1) (hQ : ∀ H', TrS V H' gp → (∀ q : Nat, q < k → H' 64 q = H 64 q ∧ H' 65 q = H 65 q) → NoL V 1 k gp k (H 64 k) (H' 64 k) → NoM V 1 k gp k (H 65 k) (H' 65 k) → Q (vi (cntG V 1 k gp)) H') : CC (d + 2) TR_rowsOfLast [va 58, va (V 4 0), vi k] H Q := by
  have hu := hI.boat.u
  have hnr := hI.boat.near
  have hn12 := hI.boat.r
  have hkn : k < nR V := by omega
  have k6 : k < 6 := Nat.lt_of_lt_of_le hkn hnR
  have z1 := shp hI
  have hTT := hT
  obtain ⟨h1, h2, h3, h4⟩ := hT
  obtain ⟨f1, f2, f3, f4, f5, f6, f7, f8, f9⟩ := trF hI h1
  simp only [en_TR_rowsOfLast, e_TR_rowsOfLast_0, k_TR_rowsOfLast_0, rr, sh, Nat.reduceLT, Nat.reduceMul, Int.reduceToNat, Int.reduceGT, Int.reduceGE, Int.reduceNe, true_and, and_true, true_or, or_true, false_or, or_false, and_self, or_self, if_true, if_false, reduceIte, not_true_eq_false, not_false_eq_true, Int.reduceEq, Int.reduceNe, Int.reduceLT, Int.reduceLE, Int.reduceAdd, Int.reduceSub, Int.reduceMul, Int.reduceNeg, Nat.reduceAdd, Nat.reduceLeDiff, Nat.reduceEqDiff, ne_eq, List.length_cons, List.length_nil, Nat.reduceSub]
  refine up_nat (P := fun r => ∀ (y8 y9 y10 y11 y12 y13 : AV), R (d + 2) TR_rowsOfLast (blk TR_rowsOfLast 1) [va 58, va (V 4 0), vi k, vl (frB V k gp r), vu, vl (toB V k gp r), vu, vi r, y8, y9, y10, y11, y12, y13] [] H Q) ?_ ?_ 0 (Nat.zero_le (nU V)) vu vu vu vu vu vu
  · intro y8 y9 y10 y11 y12 y13
    have hr := ft_rng (V := V) (k := k) (gp := gp) (nU V)
    have hiff : ∀ t : Nat → Int, SolG V 1 k gp t ↔ (frB V k gp (nU V) ≤ t k ∧ t k ≤ toB V k gp (nU V)) := fun t => by
      rw [sol_last, ft_iff h0]
    rw [e_TR_rowsOfLast_1]
    generalize hfr : frB V k gp (nU V) = fr at *
    generalize hto : toB V k gp (nU V) = to at *
    by_cases c : fr ≤ to
    · have wf : w32 fr = fr := w32_id (by clear h2 h3 h4 z1 f7 f8 f9 hQ hB hiff; omega) (by clear h2 h3 h4 z1 f7 f8 f9 hQ hB hiff; omega)
      have wt : w32 to = to := w32_id (by clear h2 h3 h4 z1 f7 f8 f9 hQ hB hiff; omega) (by clear h2 h3 h4 z1 f7 f8 f9 hQ hB hiff; omega)
      have w1 : w64 (to - fr) = to - fr := w64_id (by clear h2 h3 h4 z1 f7 f8 f9 hQ hB hiff wf wt; omega) (by clear h2 h3 h4 z1 f7 f8 f9 hQ hB hiff wf wt; omega)
      have w2 : w64 (to - fr + 1) = to - fr + 1 := w64_id (by clear h2 h3 h4 z1 f7 f8 f9 hQ hB hiff wf wt w1; omega) (by clear h2 h3 h4 z1 f7 f8 f9 hQ hB hiff wf wt w1; omega)
      have w3 : w32 (to - fr + 1) = to - fr + 1 := w32_id (by clear h2 h3 h4 z1 f7 f8 f9 hQ hB hiff wf wt w1 w2; omega) (by clear h2 h3 h4 z1 f7 f8 f9 hQ hB hiff wf wt w1 w2; omega)
      simp only [k_TR_rowsOfLast_1, e_TR_rowsOfLast_5, k_TR_rowsOfLast_5, e_TR_rowsOfLast_6, k_TR_rowsOfLast_6, rr, sh, Nat.reduceLT, Nat.reduceMul, Int.reduceToNat, Int.reduceGT, Int.reduceGE, Int.reduceNe, true_and, and_true, true_or, or_true, false_or, or_false, and_self, or_self, if_true, if_false, reduceIte, not_true_eq_false, not_false_eq_true, Int.reduceEq, Int.reduceNe, Int.reduceLT, Int.reduceLE, Int.reduceAdd, Int.reduceSub, Int.reduceMul, Int.reduceNeg, Nat.reduceAdd, Nat.reduceLeDiff, Nat.reduceEqDiff, ne_eq, List.length_cons, List.length_nil, Nat.reduceSub, z1, f9, Int.le_refl, c3_le, c, wf, wt, q_note hI h1 k6, w1, w2, w3]
      have hcnt : cntG V 1 k gp = to - fr + 1 := by
        show sumI (fun x => cntG V 0 (k + 1) (stG2 V gp k ((x : Int) + 1))) 9 = _
        have hx : ∀ x : Nat, x < 9 → cntG V 0 (k + 1) (stG2 V gp k ((x : Int) + 1)) = if fr ≤ (x : Int) + 1 ∧ (x : Int) + 1 ≤ to then 1 else 0 := fun x hx => by
          have := hiff (fun _ => (x : Int) + 1)
          rw [SolG_s] at this
          show (if okG V (stG2 V gp k ((x : Int) + 1)) = true then 1 else 0) = _
          have e0 : SolG V 0 (k + 1) (stG2 V gp k ((x : Int) + 1)) (fun _ => (x : Int) + 1) ↔ okG V (stG2 V gp k ((x : Int) + 1)) = true := by
            have e : addG V (stG2 V gp k ((x : Int) + 1)) (fun _ => (x : Int) + 1) (k + 1) 0 = stG2 V gp k ((x : Int) + 1) := by funext r; show _ + 0 = _; rw [Int.add_zero]
            unfold SolG
            rw [e]
            exact ⟨fun z => z.2, fun z => ⟨fun i hi => absurd hi (Nat.not_lt_zero i), z⟩⟩
          rw [e0] at this
          by_cases q : fr ≤ (x : Int) + 1 ∧ (x : Int) + 1 ≤ to
          · rw [if_pos q, if_pos (this.mpr q).2]
          · rw [if_neg q, if_neg (fun z => q (this.mp ⟨by clear this e0 h2 h3 h4 z1 f7 f8 f9 hQ hB hiff wf wt w1 w2 w3; omega, z⟩))]
        rw [sumI_cg hx]
        exact cnt_iv hr.1 hr.2 c
      rw [← hcnt]
      refine hQ _ hTT.nt (fun q hq => ?_) ?_ ?_
      · have e : ¬ q = k := Nat.ne_of_lt hq
        rw [(ntS_at).1, (ntS_at).2, if_neg e, if_neg e]
        exact ⟨rfl, rfl⟩
      · rw [(ntS_at).1, if_pos rfl]
        intro v
        constructor
        · intro z
          by_cases q : H 64 k ≤ v
          · exact Or.inl q
          · exact Or.inr ⟨fun _ => fr, (hiff _).mpr ⟨Int.le_refl _, c⟩, by show fr ≤ v; clear hcnt hiff h2 h3 h4 z1 f7 f8 f9 hQ hB wf wt w1 w2 w3; omega⟩
        · rintro (z | ⟨t, ht, z⟩)
          · clear hcnt hiff h2 h3 h4 z1 f7 f8 f9 hQ hB wf wt w1 w2 w3; omega
          · have := ((hiff t).mp ht).1
            clear hcnt hiff h2 h3 h4 z1 f7 f8 f9 hQ hB wf wt w1 w2 w3; omega
      · rw [(ntS_at).2, if_pos rfl]
        intro v
        constructor
        · intro z
          by_cases q : v ≤ H 65 k
          · exact Or.inl q
          · exact Or.inr ⟨fun _ => to, (hiff _).mpr ⟨c, Int.le_refl _⟩, by show v ≤ to; clear hcnt hiff h2 h3 h4 z1 f7 f8 f9 hQ hB wf wt w1 w2 w3; omega⟩
        · rintro (z | ⟨t, ht, z⟩)
          · clear hcnt hiff h2 h3 h4 z1 f7 f8 f9 hQ hB wf wt w1 w2 w3; omega
          · have := ((hiff t).mp ht).2
            clear hcnt hiff h2 h3 h4 z1 f7 f8 f9 hQ hB wf wt w1 w2 w3; omega
    · have hno : ∀ t, ¬ SolG V 1 k gp t := fun t ht => c (Int.le_trans ((hiff t).mp ht).1 ((hiff t).mp ht).2)
      simp only [k_TR_rowsOfLast_1, e_TR_rowsOfLast_5, k_TR_rowsOfLast_5, e_TR_rowsOfLast_6, k_TR_rowsOfLast_6, rr, sh, Nat.reduceLT, Nat.reduceMul, Int.reduceToNat, Int.reduceGT, Int.reduceGE, Int.reduceNe, true_and, and_true, true_or, or_true, false_or, or_false, and_self, or_self, if_true, if_false, reduceIte, not_true_eq_false, not_false_eq_true, Int.reduceEq, Int.reduceNe, Int.reduceLT, Int.reduceLE, Int.reduceAdd, Int.reduceSub, Int.reduceMul, Int.reduceNeg, Nat.reduceAdd, Nat.reduceLeDiff, Nat.reduceEqDiff, ne_eq, List.length_cons, List.length_nil, Nat.reduceSub, z1, f9, Int.le_refl, c3_le, c]
      have := hQ H hTT (fun _ _ => ⟨rfl, rfl⟩) (NoL_none hno) (NoM_none hno)
      rw [cnt_none hno] at this
      exact this
  · intro r hr ih y8 y9 y10 y11 y12 y13
    have c1 : ¬ (nU V : Int) ≤ r := by clear ih h2 h3 h4 z1 f7 f8 f9 hQ hB; omega
    have jr : 0 ≤ (r : Int) ∧ (r : Int) < 8 := by clear ih h2 h3 h4 z1 f7 f8 f9 hQ hB; omega
    have kr := w32_s (n := r) (by clear ih h2 h3 h4 z1 f7 f8 f9 hQ hB; omega)
    have wi : w32 (w32 ((r : Int) * 6) + k) = ((6 * r + k : Nat) : Int) := by
      rw [w32_id (x := (r : Int) * 6) (by clear ih h2 h3 h4 z1 f7 f8 f9 hQ hB kr; omega) (by clear ih h2 h3 h4 z1 f7 f8 f9 hQ hB kr; omega), w32_id (by clear ih h2 h3 h4 z1 f7 f8 f9 hQ hB kr; omega) (by clear ih h2 h3 h4 z1 f7 f8 f9 hQ hB kr; omega)]
      clear ih h2 h3 h4 z1 f7 f8 f9 hQ hB kr; omega
    have ji : 0 ≤ ((6 * r + k : Nat) : Int) ∧ ((6 * r + k : Nat) : Int) < 48 := by clear ih h2 h3 h4 z1 f7 f8 f9 hQ hB kr wi; omega
    have e59 := h2 r hr
    have e61 := h3 r k hr hkn
    have hg := hB r hr
    have ha := aTr_rng hI.m (k := k) hr
    rw [frB_s, toB_s] at ih
    unfold bX at ha
    rw [e_TR_rowsOfLast_1]
    by_cases a0 : aTr V r k = 0
    · rw [if_pos a0, if_pos a0] at ih
      have ab : abL 0 = 0 := rfl
      simp only [k_TR_rowsOfLast_1, e_TR_rowsOfLast_2, k_TR_rowsOfLast_2, e_TR_rowsOfLast_3, k_TR_rowsOfLast_3, e_TR_rowsOfLast_4, k_TR_rowsOfLast_4, rr, sh, Nat.reduceLT, Nat.reduceMul, Int.reduceToNat, Int.reduceGT, Int.reduceGE, Int.reduceNe, true_and, and_true, true_or, or_true, false_or, or_false, and_self, or_self, if_true, if_false, reduceIte, not_true_eq_false, not_false_eq_true, Int.reduceEq, Int.reduceNe, Int.reduceLT, Int.reduceLE, Int.reduceAdd, Int.reduceSub, Int.reduceMul, Int.reduceNeg, Nat.reduceAdd, Nat.reduceLeDiff, Nat.reduceEqDiff, ne_eq, List.length_cons, List.length_nil, Nat.reduceSub, z1, f9, c1, f1, f2, wi, ji, jr, e59, e61, a0, c3_ge, q_absL, ab, c3_eq, kr, Int.le_refl]
      exact ih _ _ _ _ _ _
    · rw [if_neg a0, if_neg a0] at ih
      by_cases an : aTr V r k < 0
      · simp only [if_pos an] at ih
        have an' : ¬ 0 ≤ aTr V r k := Int.not_le.mpr an
        have ab : abL (aTr V r k) = -aTr V r k := by unfold abL; rw [if_pos an]; exact w64_id (by clear ih h2 h3 h4 z1 f7 f8 f9 hQ hB kr wi e59 e61; omega) (by clear ih h2 h3 h4 z1 f7 f8 f9 hQ hB kr wi e59 e61; omega)
        have nz : ¬ -aTr V r k = 0 := by clear ih h2 h3 h4 z1 f7 f8 f9 hQ hB kr wi e59 e61 ab; omega
        have ws : w64 (-gp r) = -gp r := w64_id (by clear ih h2 h3 h4 z1 f7 f8 f9 hQ hB kr wi e59 e61 ab; omega) (by clear ih h2 h3 h4 z1 f7 f8 f9 hQ hB kr wi e59 e61 ab; omega)
        have wp : w64 (V 99 1 + -gp r) = V 99 1 + -gp r := w64_id (by clear ih h2 h3 h4 z1 f7 f8 f9 hQ hB kr wi e59 e61 ab ws; omega) (by clear ih h2 h3 h4 z1 f7 f8 f9 hQ hB kr wi e59 e61 ab ws; omega)
        have wm : w64 (V 99 1 - -gp r) = V 99 1 - -gp r := w64_id (by clear ih h2 h3 h4 z1 f7 f8 f9 hQ hB kr wi e59 e61 ab ws; omega) (by clear ih h2 h3 h4 z1 f7 f8 f9 hQ hB kr wi e59 e61 ab ws; omega)
        have hz : 1 ≤ -aTr V r k := by clear ih h2 h3 h4 z1 f7 f8 f9 hQ hB kr wi e59 e61 ab ws wp wm; omega
        have hd := div_rng hz (a := V 99 1 + -gp r) (by clear ih h2 h3 h4 z1 f7 f8 f9 hQ hB kr wi e59 e61 ab ws wp wm; omega)
        have wq : w64 (-((V 99 1 + -gp r) / -aTr V r k)) = -((V 99 1 + -gp r) / -aTr V r k) := by
          generalize (V 99 1 + -gp r) / -aTr V r k = u at hd ⊢
          exact w64_id (by clear ih h2 h3 h4 z1 f7 f8 f9 hQ hB kr wi e59 e61 ab ws wp wm; omega) (by clear ih h2 h3 h4 z1 f7 f8 f9 hQ hB kr wi e59 e61 ab ws wp wm; omega)
        have fd1 : ∀ {Q : AV → Hp → Prop}, CC (d + 1) JK_floorDiv [vl (V 99 1 + -gp r), vl (-aTr V r k)] H Q = Q (vl ((V 99 1 + -gp r) / -aTr V r k)) H := fun {Q} => q_floorDiv (by clear ih h2 h3 h4 z1 f7 f8 f9 hQ hB kr wi e59 e61 ab ws wp wm wq hd; omega) (by clear ih h2 h3 h4 z1 f7 f8 f9 hQ hB kr wi e59 e61 ab ws wp wm wq hd; omega)
        have fd2 : ∀ {Q : AV → Hp → Prop}, CC (d + 1) JK_floorDiv [vl (V 99 1 - -gp r), vl (-aTr V r k)] H Q = Q (vl ((V 99 1 - -gp r) / -aTr V r k)) H := fun {Q} => q_floorDiv (by clear ih h2 h3 h4 z1 f7 f8 f9 hQ hB kr wi e59 e61 ab ws wp wm wq hd; omega) (by clear ih h2 h3 h4 z1 f7 f8 f9 hQ hB kr wi e59 e61 ab ws wp wm wq hd; omega)
        simp only [k_TR_rowsOfLast_1, e_TR_rowsOfLast_2, k_TR_rowsOfLast_2, e_TR_rowsOfLast_3, k_TR_rowsOfLast_3, e_TR_rowsOfLast_4, k_TR_rowsOfLast_4, rr, sh, Nat.reduceLT, Nat.reduceMul, Int.reduceToNat, Int.reduceGT, Int.reduceGE, Int.reduceNe, true_and, and_true, true_or, or_true, false_or, or_false, and_self, or_self, if_true, if_false, reduceIte, not_true_eq_false, not_false_eq_true, Int.reduceEq, Int.reduceNe, Int.reduceLT, Int.reduceLE, Int.reduceAdd, Int.reduceSub, Int.reduceMul, Int.reduceNeg, Nat.reduceAdd, Nat.reduceLeDiff, Nat.reduceEqDiff, ne_eq, List.length_cons, List.length_nil, Nat.reduceSub, z1, f8, f9, c1, f1, f2, wi, ji, jr, e59, e61, an', c3_ge, q_absL, ab, c3_eq, nz, ws, wp, wm, fd1, fd2, wq, q_maxL, q_minL, kr]
        exact ih _ _ _ _ _ _
      · simp only [if_neg an] at ih
        have an' : 0 ≤ aTr V r k := Int.not_lt.mp an
        have ab : abL (aTr V r k) = aTr V r k := by unfold abL; rw [if_neg an]
        have wp : w64 (V 99 1 + gp r) = V 99 1 + gp r := w64_id (by clear ih h2 h3 h4 z1 f7 f8 f9 hQ hB kr wi e59 e61 ab; omega) (by clear ih h2 h3 h4 z1 f7 f8 f9 hQ hB kr wi e59 e61 ab; omega)
        have wm : w64 (V 99 1 - gp r) = V 99 1 - gp r := w64_id (by clear ih h2 h3 h4 z1 f7 f8 f9 hQ hB kr wi e59 e61 ab; omega) (by clear ih h2 h3 h4 z1 f7 f8 f9 hQ hB kr wi e59 e61 ab; omega)
        have hz : 1 ≤ aTr V r k := by clear ih h2 h3 h4 z1 f7 f8 f9 hQ hB kr wi e59 e61 ab wp wm; omega
        have hd := div_rng hz (a := V 99 1 + gp r) (by clear ih h2 h3 h4 z1 f7 f8 f9 hQ hB kr wi e59 e61 ab wp wm; omega)
        have wq : w64 (-((V 99 1 + gp r) / aTr V r k)) = -((V 99 1 + gp r) / aTr V r k) := by
          generalize (V 99 1 + gp r) / aTr V r k = u at hd ⊢
          exact w64_id (by clear ih h2 h3 h4 z1 f7 f8 f9 hQ hB kr wi e59 e61 ab wp wm; omega) (by clear ih h2 h3 h4 z1 f7 f8 f9 hQ hB kr wi e59 e61 ab wp wm; omega)
        have fd1 : ∀ {Q : AV → Hp → Prop}, CC (d + 1) JK_floorDiv [vl (V 99 1 + gp r), vl (aTr V r k)] H Q = Q (vl ((V 99 1 + gp r) / aTr V r k)) H := fun {Q} => q_floorDiv (by clear ih h2 h3 h4 z1 f7 f8 f9 hQ hB kr wi e59 e61 ab wp wm wq hd; omega) (by clear ih h2 h3 h4 z1 f7 f8 f9 hQ hB kr wi e59 e61 ab wp wm wq hd; omega)
        have fd2 : ∀ {Q : AV → Hp → Prop}, CC (d + 1) JK_floorDiv [vl (V 99 1 - gp r), vl (aTr V r k)] H Q = Q (vl ((V 99 1 - gp r) / aTr V r k)) H := fun {Q} => q_floorDiv (by clear ih h2 h3 h4 z1 f7 f8 f9 hQ hB kr wi e59 e61 ab wp wm wq hd; omega) (by clear ih h2 h3 h4 z1 f7 f8 f9 hQ hB kr wi e59 e61 ab wp wm wq hd; omega)
        simp only [k_TR_rowsOfLast_1, e_TR_rowsOfLast_2, k_TR_rowsOfLast_2, e_TR_rowsOfLast_3, k_TR_rowsOfLast_3, e_TR_rowsOfLast_4, k_TR_rowsOfLast_4, rr, sh, Nat.reduceLT, Nat.reduceMul, Int.reduceToNat, Int.reduceGT, Int.reduceGE, Int.reduceNe, true_and, and_true, true_or, or_true, false_or, or_false, and_self, or_self, if_true, if_false, reduceIte, not_true_eq_false, not_false_eq_true, Int.reduceEq, Int.reduceNe, Int.reduceLT, Int.reduceLE, Int.reduceAdd, Int.reduceSub, Int.reduceMul, Int.reduceNeg, Nat.reduceAdd, Nat.reduceLeDiff, Nat.reduceEqDiff, ne_eq, List.length_cons, List.length_nil, Nat.reduceSub, z1, f8, f9, c1, f1, f2, wi, ji, jr, e59, e61, an', c3_ge, q_absL, ab, c3_eq, a0, wp, wm, fd1, fd2, wq, q_maxL, q_minL, kr]
        exact ih _ _ _ _ _ _
end TV
