/-! lanes: sums over all sides, bits by bits -/
def Fx (S : Int → Int → Bool) (H H' : Hp) : Prop := ∀ a b, S a b = false → H' a b = H a b
theorem Fx.rf {S : Int → Int → Bool} {H : Hp} : Fx S H H := fun _ _ _ => rfl
theorem Fx.tr {S : Int → Int → Bool} {H H1 H2 : Hp} (h : Fx S H H1) (h1 : Fx S H1 H2) : Fx S H H2 := fun a b q => (h1 a b q).trans (h a b q)
theorem Fx.hs {S : Int → Int → Bool} {V H : Hp} {c j v : Int} (h : Fx S V H) (hc : S c j = true) : Fx S V (hs H c j v) := fun a b q => by
  rw [hs_app, if_neg (fun e => by rw [e.1, e.2, hc] at q; cases q)]
  exact h a b q
theorem Fx.up {S S' : Int → Int → Bool} {V H : Hp} (h : Fx S V H) (hs : ∀ a b, S a b = true → S' a b = true) : Fx S' V H := fun a b q => h a b (by
  cases e : S a b with
  | false => rfl
  | true => rw [hs a b e] at q; cases q)
theorem Fx.cell {S : Int → Int → Bool} {H H' : Hp} (h : Fx S H H') (a : Int) (hs : ∀ b, S a b = false) : H' a = H a := funext fun b => h a b (hs b)
theorem Vw.fx {S : Int → Int → Bool} {V H H' : Hp} (h : Vw V H) (h1 : Fx S H H') (hs : ∀ a b, S a b = true → scr a b = true) : Vw V H' := fun a b q => ((h1.up hs) a b q).trans (h a b q)
def sLN (a b : Int) : Bool := if a = 43 then true else if a = 44 then true else if a = 42 then decide (b = 2) else false
theorem sLN_scr (a b : Int) (h : sLN a b = true) : scr a b = true := by
  unfold sLN at h
  by_cases h1 : a = 43
  · subst h1; rfl
  · by_cases h2 : a = 44
    · subst h2; rfl
    · by_cases h3 : a = 42
      · subst h3
        have : b = 2 := by simpa using h
        subst this; rfl
      · simp [h1, h2, h3] at h
def lnv (g : Nat → Nat → Int) (e : Nat → Int) (n b i : Nat) : Int := w64 (e i + sumI (fun k => sgn (b.testBit k) (g i k)) n)
def LaneS (H : Hp) (n u : Nat) (g : Nat → Nat → Int) (e : Nat → Int) (b : Nat) : Prop :=
  H 42 2 = u ∧ u ≤ 32 ∧ (∀ i : Nat, i < u → H 43 i = lnv g e n b i) ∧ ∀ i k : Nat, i < u → k < n → H 44 (12 * i + k) = w64 (2 * (g i k - sumI (g i) k))
/-- what one more of the bits changes in a sum -/
theorem sum_next {b z : Nat} (g : Nat → Int) (hz : LwS b z) : ∀ m, m ≤ 12 → sumI (fun k => sgn (b.testBit k) (g k)) m = sumI (fun k => sgn ((b - 1).testBit k) (g k)) m + (if z < m then 2 * (g (z) - sumI g (z)) else -2 * sumI g m) := by
  obtain ⟨hl, -, h2, h3, h4, h5⟩ := hz
  intro m
  induction m with
  | zero => intro _; rw [if_neg (by omega)]; rfl
  | succ m ih =>
    intro hm
    have ih := ih (by omega)
    show sumI (fun k => sgn (b.testBit k) (g k)) m + sgn (b.testBit m) (g m) = sumI (fun k => sgn ((b - 1).testBit k) (g k)) m + sgn ((b - 1).testBit m) (g m) + _
    rcases Nat.lt_trichotomy m (z) with h6 | h6 | h6
    · rw [if_neg (by omega)] at ih ⊢
      obtain ⟨e1, e2⟩ := h4 m h6
      rw [e1, e2, ih]
      show _ + -g m = _ + g m + -2 * (sumI g m + g m)
      omega
    · rw [if_neg (by omega)] at ih
      rw [if_pos (by omega), h6, h2, h3]
      rw [h6] at ih
      rw [ih]
      show _ + g (z) = _ + -g (z) + _
      omega
    · rw [if_pos (by omega)] at ih ⊢
      rw [h5 m h6 (by omega), ih]
      omega
section LN
variable {d : Nat} {V H : Hp} {Q : AV → Hp → Prop}
set_option maxRecDepth 20000 in
theorem c_clear (hP : Ptr V) (hH : Vw V H) {n : Nat} {g : Nat → Nat → Int} {e : Nat → Int} (hQ : ∀ H', Fx sLN H H' → LaneS H' n 0 g e 0 → Q vu H') : CC d LN_clear [va 42] H Q := by
  simp only [en_LN_clear, e_LN_clear_0, k_LN_clear_0, rr, sh, Nat.reduceLT, Nat.reduceMul, Int.reduceToNat, Int.reduceGT, Int.reduceGE, Int.reduceNe, true_and, and_true, true_or, or_true, false_or, or_false, and_self, or_self, if_true, if_false, reduceIte, not_true_eq_false, not_false_eq_true, Int.reduceEq, Int.reduceNe, Int.reduceLT, Int.reduceLE, Int.reduceAdd, Int.reduceSub, Int.reduceMul, Int.reduceNeg, Nat.reduceAdd, Nat.reduceLeDiff, Nat.reduceEqDiff, ne_eq, List.length_cons, List.length_nil, Nat.reduceSub, ite10_0, ite10_1, ite10_01, Classical.not_not]
  exact hQ _ (Fx.rf.hs rfl) ⟨hs_same, by omega, fun i hi => absurd hi (Nat.not_lt_zero i), fun i k hi => absurd hi (Nat.not_lt_zero i)⟩
set_option maxRecDepth 20000 in
theorem c_advance (hP : Ptr V) (hH : Vw V H) {n u b : Nat} {g : Nat → Nat → Int} {e : Nat → Int} (hn : n ≤ 12) (hb0 : b ≠ 0) (hb : b < 2 ^ n) (hL : LaneS H n u g e (b - 1)) (hQ : ∀ H', Fx sLN H H' → LaneS H' n u g e b → Q vu H') : CC (d + 1) LN_advanceTo [va 42, vi b] H Q := by
  have hb4 := bits_lt hn hb
  obtain ⟨z, hzz⟩ := lw_spec hb0 hb4
  obtain ⟨hl, h1, h2, h3, h4, h5⟩ := id hzz
  obtain ⟨p1, p2⟩ := pop_low _ hl
  obtain ⟨l1, l2, l3, l4⟩ := hL
  have hz : z < n := by
    rcases Nat.lt_or_ge (z) n with h | h
    · exact h
    · rw [Nat.testBit_lt_two_pow (Nat.lt_of_lt_of_le hb (Nat.pow_le_pow_right (by decide) h))] at h2; cases h2
  have c1 : (z : Int) < 12 := by omega
  have f := hH.f hP
  simp only [en_LN_advanceTo, e_LN_advanceTo_0, k_LN_advanceTo_0, e_LN_advanceTo_1, k_LN_advanceTo_1, e_LN_advanceTo_3, k_LN_advanceTo_3, rr, sh, Nat.reduceLT, Nat.reduceMul, Int.reduceToNat, Int.reduceGT, Int.reduceGE, Int.reduceNe, true_and, and_true, true_or, or_true, false_or, or_false, and_self, or_self, if_true, if_false, reduceIte, not_true_eq_false, not_false_eq_true, Int.reduceEq, Int.reduceNe, Int.reduceLT, Int.reduceLE, Int.reduceAdd, Int.reduceSub, Int.reduceMul, Int.reduceNeg, Nat.reduceAdd, Nat.reduceLeDiff, Nat.reduceEqDiff, ne_eq, List.length_cons, List.length_nil, Nat.reduceSub, f, h1, q_bitCount p2, p1, c1]
  clear f h1 p1 p2 c1 hb hb4
  repeat (refine And.intro (by omega) ?_)
  refine up_nat (P := fun k => ∀ H', Fx sLN H H' → H' 42 2 = u → H' 44 = H 44 → (∀ i : Nat, i < k → H' 43 i = lnv g e n b i) → (∀ i : Nat, k ≤ i → i < u → H' 43 i = lnv g e n (b - 1) i) → R (d + 1) LN_advanceTo (blk LN_advanceTo 2) [va 42, vi b, vi (z), vi k] [] H' Q) ?_ ?_ 0 (Nat.zero_le u) H Fx.rf l1 rfl (fun i hi => absurd hi (Nat.not_lt_zero i)) (fun i _ hi => l3 i hi)
  · intro H' a1 a2 a3 a4 a5
    rw [e_LN_advanceTo_2]
    simp only [k_LN_advanceTo_2, en_LN_advanceTo, e_LN_advanceTo_0, k_LN_advanceTo_0, e_LN_advanceTo_1, k_LN_advanceTo_1, e_LN_advanceTo_3, k_LN_advanceTo_3, rr, sh, Nat.reduceLT, Nat.reduceMul, Int.reduceToNat, Int.reduceGT, Int.reduceGE, Int.reduceNe, true_and, and_true, true_or, or_true, false_or, or_false, and_self, or_self, if_true, if_false, reduceIte, not_true_eq_false, not_false_eq_true, Int.reduceEq, Int.reduceNe, Int.reduceLT, Int.reduceLE, Int.reduceAdd, Int.reduceSub, Int.reduceMul, Int.reduceNeg, Nat.reduceAdd, Nat.reduceLeDiff, Nat.reduceEqDiff, ne_eq, List.length_cons, List.length_nil, Nat.reduceSub, ite10_0, ite10_1, ite10_01, Classical.not_not, a2, Int.le_refl]
    exact hQ H' a1 ⟨a2, l2, a4, fun i k hi hk => by rw [a3]; exact l4 i k hi hk⟩
  · intro k hk ih H' a1 a2 a3 a4 a5
    have hH' := hH.fx a1 sLN_scr
    have c2 : ¬ (u : Int) ≤ k := by omega
    have i1 : (k : Int) < 32 := by omega
    have w1 : w32 (w32 ((k : Int) * 12) + z) = 12 * k + z := by rw [w32_id (x := (k : Int) * 12) (by omega) (by omega), w32_id (by omega) (by omega)]; omega
    have e1 := l4 k (z) (by omega) hz
    rw [← a3] at e1
    have e2 := a5 k (Nat.le_refl k) hk
    have e3 : w64 (lnv g e n (b - 1) k + w64 (2 * (g k (z) - sumI (g k) (z)))) = lnv g e n b k := by
      unfold lnv
      have := sum_next (g k) hzz n hn
      rw [if_pos hz] at this
      rw [this, w64_al, w64_ar, Int.add_assoc]
    have f := hH'.f hP
    rw [e_LN_advanceTo_2]
    simp only [k_LN_advanceTo_2, en_LN_advanceTo, e_LN_advanceTo_0, k_LN_advanceTo_0, e_LN_advanceTo_1, k_LN_advanceTo_1, e_LN_advanceTo_3, k_LN_advanceTo_3, rr, sh, Nat.reduceLT, Nat.reduceMul, Int.reduceToNat, Int.reduceGT, Int.reduceGE, Int.reduceNe, true_and, and_true, true_or, or_true, false_or, or_false, and_self, or_self, if_true, if_false, reduceIte, not_true_eq_false, not_false_eq_true, Int.reduceEq, Int.reduceNe, Int.reduceLT, Int.reduceLE, Int.reduceAdd, Int.reduceSub, Int.reduceMul, Int.reduceNeg, Nat.reduceAdd, Nat.reduceLeDiff, Nat.reduceEqDiff, ne_eq, List.length_cons, List.length_nil, Nat.reduceSub, f, a2, c2, w1, e1, e2, e3, w32_s (show k < 2147483647 by omega)]
    clear f e1 e2 e3 w1
    repeat (refine And.intro (by omega) ?_)
    refine ih _ (a1.hs (c := 43) (j := (k : Int)) rfl) ?_ ?_ ?_ ?_
    · rw [hs_ne (by decide)]; exact a2
    · rw [hs_ne (by decide)]; exact a3
    · intro i hi
      rw [hs_app]
      by_cases h : i = k
      · rw [if_pos ⟨rfl, by omega⟩, h]
      · rw [if_neg (by omega)]; exact a4 i (by omega)
    · intro i hi hu
      rw [hs_app, if_neg (by omega)]
      exact a5 i (by omega) hu
set_option maxRecDepth 20000 in
theorem c_add (hP : Ptr V) (hH : Vw V H) {n u : Nat} {g : Nat → Nat → Int} {e : Nat → Int} {c b0 : Int} (hn : n ≤ 12) (hu : u < 32) (hc : c = 46 ∨ c = 55 ∨ c = 69) (hL : LaneS H n u g e 0) (hb0 : b0 = w64 (e u)) (hld : ∀ k : Nat, k < n → H c k = w64 (g u k)) (hQ : ∀ H', Fx sLN H H' → LaneS H' n (u + 1) g e 0 → Q vu H') : CC d LN_add [va 42, vl b0, va c, vi n] H Q := by
  obtain ⟨l1, l2, l3, l4⟩ := hL
  have sc : sht c = 2 ∧ shl c = 12 := by rcases hc with rfl | rfl | rfl <;> exact ⟨rfl, rfl⟩
  have hc3 : c ≠ 43 ∧ c ≠ 44 ∧ c ≠ 42 := by omega
  have c1 : ¬ (32 : Int) ≤ u := by omega
  have c2 : ¬ (12 : Int) < n := by omega
  have c3 : (n : Int) ≤ 12 := by omega
  have f := hH.f hP
  simp only [en_LN_add, e_LN_add_0, k_LN_add_0, e_LN_add_1, k_LN_add_1, e_LN_add_2, k_LN_add_2, rr, sh, Nat.reduceLT, Nat.reduceMul, Int.reduceToNat, Int.reduceGT, Int.reduceGE, Int.reduceNe, true_and, and_true, true_or, or_true, false_or, or_false, and_self, or_self, if_true, if_false, reduceIte, not_true_eq_false, not_false_eq_true, Int.reduceEq, Int.reduceNe, Int.reduceLT, Int.reduceLE, Int.reduceAdd, Int.reduceSub, Int.reduceMul, Int.reduceNeg, Nat.reduceAdd, Nat.reduceLeDiff, Nat.reduceEqDiff, ne_eq, List.length_cons, List.length_nil, Nat.reduceSub, f, l1, c1, c2, c3, sc]
  clear f
  repeat (refine And.intro (by omega) ?_)
  refine up_nat (P := fun k => ∀ H', Fx sLN H H' → H' 42 2 = u → H' 43 = H 43 → (∀ i j : Nat, i < u → j < n → H' 44 (12 * i + j) = H 44 (12 * i + j)) → (∀ j : Nat, j < k → H' 44 (12 * u + j) = w64 (2 * (g u j - sumI (g u) j))) → R d LN_add (blk LN_add 3) [va 42, vl b0, vu, va c, vi n, vl (w64 (sumI (g u) k)), vu, vi k] [] H' Q) ?_ ?_ 0 (Nat.zero_le n) H Fx.rf l1 rfl (fun _ _ _ _ => rfl) (fun i hi => absurd hi (Nat.not_lt_zero i))
  · intro H' a1 a2 a3 a4 a5
    have hH' := hH.fx a1 sLN_scr
    have c4 : w32 ((u : Int) + 1) = ((u + 1 : Nat) : Int) := w32_s (by omega)
    have f := hH'.f hP
    rw [e_LN_add_3]
    simp only [k_LN_add_3, en_LN_add, e_LN_add_0, k_LN_add_0, e_LN_add_1, k_LN_add_1, e_LN_add_2, k_LN_add_2, e_LN_add_4, k_LN_add_4, rr, sh, Nat.reduceLT, Nat.reduceMul, Int.reduceToNat, Int.reduceGT, Int.reduceGE, Int.reduceNe, true_and, and_true, true_or, or_true, false_or, or_false, and_self, or_self, if_true, if_false, reduceIte, not_true_eq_false, not_false_eq_true, Int.reduceEq, Int.reduceNe, Int.reduceLT, Int.reduceLE, Int.reduceAdd, Int.reduceSub, Int.reduceMul, Int.reduceNeg, Nat.reduceAdd, Nat.reduceLeDiff, Nat.reduceEqDiff, ne_eq, List.length_cons, List.length_nil, Nat.reduceSub, f, a2, c4, Int.le_refl, hs_ne (show (42 : Int) ≠ 43 by decide)]
    clear f
    repeat (refine And.intro (by omega) ?_)
    refine hQ _ ((a1.hs (c := 43) (j := (u : Int)) rfl).hs (c := 42) (j := 2) rfl) ⟨hs_same, by omega, fun i hi => ?_, fun i j hi hj => ?_⟩
    · rw [hs_ne (by decide), hs_app]
      by_cases h : i = u
      · rw [if_pos ⟨rfl, by omega⟩, h]
        unfold lnv
        rw [hb0, w64_sl, w64_sr]
        have : ∀ m, sumI (fun k => sgn (Nat.testBit 0 k) (g u k)) m = - sumI (g u) m := by
          intro m
          induction m with
          | zero => rfl
          | succ m ih =>
            show sumI (fun k => sgn (Nat.testBit 0 k) (g u k)) m + sgn (Nat.testBit 0 m) (g u m) = -(sumI (g u) m + g u m)
            rw [ih, Nat.zero_testBit]
            show _ + -g u m = _
            omega
        rw [this, Int.sub_eq_add_neg]
      · rw [if_neg (by omega), a3]; exact l3 i (by omega)
    · rw [hs_ne (by decide), hs_ne (by decide)]
      by_cases h : i = u
      · rw [h]; exact a5 j hj
      · rw [a4 i j (by omega) hj]; exact l4 i j (by omega) hj
  · intro k hk ih H' a1 a2 a3 a4 a5
    have hH' := hH.fx a1 sLN_scr
    have c4 : ¬ (n : Int) ≤ k := by omega
    have w1 : w32 (w32 ((u : Int) * 12) + k) = 12 * u + k := by rw [w32_id (x := (u : Int) * 12) (by omega) (by omega), w32_id (by omega) (by omega)]; omega
    have e0 : H' c = H c := a1.cell c (fun b => by unfold sLN; rw [if_neg hc3.1, if_neg hc3.2.1, if_neg hc3.2.2])
    have e1 : H' c k = w64 (g u k) := by rw [e0]; exact hld k hk
    have e2 : ∀ v, hs H' 44 (12 * u + k) v c k = w64 (g u k) := fun v => by rw [hs_ne hc3.2.1]; exact e1
    have e3 : w64 (2 * w64 (w64 (g u k) - w64 (sumI (g u) k))) = w64 (2 * (g u k - sumI (g u) k)) := by rw [w64_mr, ← w64_mr 2, w64_sl, w64_sr, w64_mr]
    have e4 : w64 (w64 (sumI (g u) k) + w64 (g u k)) = w64 (sumI (g u) (k + 1)) := by rw [w64_al, w64_ar]; rfl
    have f := hH'.f hP
    rw [e_LN_add_3]
    simp only [k_LN_add_3, en_LN_add, e_LN_add_0, k_LN_add_0, e_LN_add_1, k_LN_add_1, e_LN_add_2, k_LN_add_2, e_LN_add_4, k_LN_add_4, rr, sh, Nat.reduceLT, Nat.reduceMul, Int.reduceToNat, Int.reduceGT, Int.reduceGE, Int.reduceNe, true_and, and_true, true_or, or_true, false_or, or_false, and_self, or_self, if_true, if_false, reduceIte, not_true_eq_false, not_false_eq_true, Int.reduceEq, Int.reduceNe, Int.reduceLT, Int.reduceLE, Int.reduceAdd, Int.reduceSub, Int.reduceMul, Int.reduceNeg, Nat.reduceAdd, Nat.reduceLeDiff, Nat.reduceEqDiff, ne_eq, List.length_cons, List.length_nil, Nat.reduceSub, f, a2, c4, sc, w1, e1, e2, e3, e4, w32_s (show k < 2147483647 by omega)]
    clear f e1 e2 e3 e4 w1
    repeat (refine And.intro (by omega) ?_)
    refine ih _ (a1.hs (c := 44) (j := 12 * (u : Int) + k) rfl) ?_ ?_ ?_ ?_
    · rw [hs_ne (by decide)]; exact a2
    · rw [hs_ne (by decide)]; exact a3
    · intro i j hi hj
      rw [hs_app, if_neg (by omega)]; exact a4 i j hi hj
    · intro j hj
      rw [hs_app]
      by_cases h : j = k
      · rw [if_pos ⟨rfl, by omega⟩, h]
      · rw [if_neg (by omega)]; exact a5 j (by omega)
end LN
