/-! changes: the class's steps -/
def ChS (V : Hp) (D : Nat) (f : Nat → Int) (H : Hp) : Prop := H 50 4 = D ∧ H 50 3 = wcn V 4 ∧ (∀ k : Nat, k < 12 → H 51 k = f k) ∧ ∀ i : Nat, i < wcn V 4 → (∀ k : Nat, k < nS V → H 52 ((12 * i + k : Nat) : Int) = sgn (D.testBit k) (lvr V (wpw V i) k)) ∧ H 53 i = w64 (swF V f (wpw V i) D - V 101 (4 + wpw V i))
def fOk (f : Nat → Int) : Prop := ∀ k : Nat, k < 12 → 0 ≤ f k ∧ f k ≤ 99
theorem fOk_swf {f : Nat → Int} (h : fOk f) {a b : Nat} (ha : a < 12) (hb : b < 12) : fOk (swf a b f) := fun k hk => by
  unfold swf
  split
  · exact h b hb
  · split
    · exact h a ha
    · exact h k hk
theorem wpw_lt (V : Hp) {i : Nat} (hi : i < wcn V 4) : wpw V i < 4 := by
  have := (wall V (fun q => q < 4) 4 (Nat.le_refl 4)).mpr (fun q hq _ => hq) i hi
  exact this
theorem lvr_rng {V : Hp} (hM : Inm V) {q k : Nat} (hq : q < 4) (hk : k < nS V) : 0 ≤ lvr V q k ∧ lvr V q k ≤ 99 * 970299 := by
  have b1 := hM.boat.place k hk
  have b2 := hM.boat.arm k hk
  unfold lvr
  generalize V 92 (12 + (k : Int)) = x at b1 ⊢
  generalize V 93 (12 + (k : Int)) = y at b2 ⊢
  have m2 : 0 ≤ x * x ∧ x * x ≤ 99 * 99 := ⟨Int.mul_nonneg (by omega) (by omega), Int.mul_le_mul b1.2 b1.2 (by omega) (by omega)⟩
  have m3 : 0 ≤ x * x * x ∧ x * x * x ≤ 99 * 99 * 99 := ⟨Int.mul_nonneg m2.1 (by omega), Int.mul_le_mul m2.2 b1.2 (by omega) (by omega)⟩
  have hp : 0 ≤ x ^ q ∧ x ^ q ≤ 970299 := by
    rcases (by omega : q = 0 ∨ q = 1 ∨ q = 2 ∨ q = 3) with rfl | rfl | rfl | rfl
    · rw [Int.pow_zero]; omega
    · rw [show x ^ 1 = x by grind]; omega
    · rw [show x ^ 2 = x * x by grind]; omega
    · rw [show x ^ 3 = x * x * x by grind]; omega
  exact ⟨Int.mul_nonneg (by omega) hp.1, Int.mul_le_mul b2.2 hp.2 hp.1 (by omega)⟩
theorem sgn_rng {b : Bool} {x M : Int} (h : 0 ≤ x ∧ x ≤ M) : -M ≤ sgn b x ∧ sgn b x ≤ M := by unfold sgn; split <;> omega
theorem swF_swf {V : Hp} {f : Nat → Int} {a b q D : Nat} (ha : a < nS V) (hb : b < nS V) (hab : a ≠ b) : swF V (swf a b f) q D = swF V f q D + (f b - f a) * (sgn (D.testBit a) (lvr V q a) - sgn (D.testBit b) (lvr V q b)) := by
  unfold swF
  rw [sumI_two (g := fun k => sgn (D.testBit k) (f k * lvr V q k)) ha hb hab (fun k h1 h2 => by unfold swf; rw [if_neg h1, if_neg h2])]
  rw [show swf a b f a = f b by unfold swf; rw [if_pos rfl], show swf a b f b = f a by unfold swf; rw [if_neg (fun z => hab z.symm), if_pos rfl]]
  rw [sgn_mul, sgn_mul, sgn_mul, sgn_mul]
  generalize sgn (D.testBit a) (lvr V q a) = x
  generalize sgn (D.testBit b) (lvr V q b) = y
  grind
theorem xor_bit {D s k : Nat} : (D ^^^ 1 * 2 ^ s).testBit k = (D.testBit k ^^ decide (s = k)) := by rw [Nat.testBit_xor, Nat.one_mul, Nat.testBit_two_pow]
theorem sgn_xt {b : Bool} {x : Int} : sgn (b ^^ true) x = -sgn b x := by cases b <;> simp [sgn]
theorem swF_flip {V : Hp} {f : Nat → Int} {s q D : Nat} (hs' : s < nS V) : swF V f q (D ^^^ 1 * 2 ^ s) = swF V f q D - 2 * f s * sgn (D.testBit s) (lvr V q s) := by
  unfold swF
  rw [sumI_one (g := fun k => sgn (D.testBit k) (f k * lvr V q k)) hs' (fun k hk => by rw [xor_bit, decide_eq_false (fun z => hk z.symm), Bool.xor_false])]
  rw [xor_bit, decide_eq_true rfl, sgn_xt, sgn_mul]
  generalize sgn (D.testBit s) (lvr V q s) = x
  grind
section CS
variable {d : Nat} {V H : Hp} {Q : AV → Hp → Prop}
theorem chP (hI : Inq V) (hH : Vw V H) : H 50 0 = 51 ∧ H 50 1 = 52 ∧ H 50 2 = 53 := ⟨(hH 50 0 rfl).trans (hI.ptr (50, 0, 51) (by decide +kernel)), (hH 50 1 rfl).trans (hI.ptr (50, 1, 52) (by decide +kernel)), (hH 50 2 rfl).trans (hI.ptr (50, 2, 53) (by decide +kernel))⟩
set_option maxRecDepth 20000 in
theorem c_chGood (hI : Inq V) (hH : Vw V H) {D : Nat} {f : Nat → Int} (hC : ChS V D f H) (h1 : goodF V f D = true → Q (vi 1) H) (h0 : ¬ goodF V f D = true → Q (vi 0) H) : CC (d + 1) CH_isGood [va 50, vi (V 99 1)] H Q := by
  obtain ⟨s1, s2, s3, s4⟩ := hC
  have hw := wcn_le V 4
  have p2 := (chP hI hH).2.2
  have hg : goodF V f D = true ↔ ∀ i, i < wcn V 4 → gapF V f (wpw V i) D ≤ V 99 1 := by
    unfold goodF
    rw [decide_eq_true_eq]
    exact (wall V (fun q => gapF V f q D ≤ V 99 1) 4 (Nat.le_refl 4)).symm
  rw [hg] at h1 h0
  simp only [en_CH_isGood, e_CH_isGood_0, k_CH_isGood_0, rr, sh, Nat.reduceLT, Nat.reduceMul, Int.reduceToNat, Int.reduceGT, Int.reduceGE, Int.reduceNe, true_and, and_true, true_or, or_true, false_or, or_false, and_self, or_self, if_true, if_false, reduceIte, not_true_eq_false, not_false_eq_true, Int.reduceEq, Int.reduceNe, Int.reduceLT, Int.reduceLE, Int.reduceAdd, Int.reduceSub, Int.reduceMul, Int.reduceNeg, Nat.reduceAdd, Nat.reduceLeDiff, Nat.reduceEqDiff, ne_eq, List.length_cons, List.length_nil, Nat.reduceSub]
  refine up_nat (P := fun i => (∀ j, j < i → gapF V f (wpw V j) D ≤ V 99 1) → R (d + 1) CH_isGood (blk CH_isGood 1) [va 50, vi (V 99 1), vi i] [] H Q) ?_ ?_ 0 (Nat.zero_le (wcn V 4)) (fun j hj => absurd hj (Nat.not_lt_zero j))
  · intro ha
    rw [e_CH_isGood_1]
    simp only [k_CH_isGood_1, e_CH_isGood_3, k_CH_isGood_3, rr, sh, Nat.reduceLT, Nat.reduceMul, Int.reduceToNat, Int.reduceGT, Int.reduceGE, Int.reduceNe, true_and, and_true, true_or, or_true, false_or, or_false, and_self, or_self, if_true, if_false, reduceIte, not_true_eq_false, not_false_eq_true, Int.reduceEq, Int.reduceNe, Int.reduceLT, Int.reduceLE, Int.reduceAdd, Int.reduceSub, Int.reduceMul, Int.reduceNeg, Nat.reduceAdd, Nat.reduceLeDiff, Nat.reduceEqDiff, ne_eq, List.length_cons, List.length_nil, Nat.reduceSub, s2, Int.le_refl]
    exact h1 ha
  · intro i hi ih ha
    have c1 : ¬ (wcn V 4 : Int) ≤ i := by clear ih ha h1 h0 hg s4; omega
    have j1 : 0 ≤ (i : Int) ∧ (i : Int) < 4 := by clear ih ha h1 h0 hg s4; omega
    have kw := w32_s (n := i) (by clear ih ha h1 h0 hg s4; omega)
    have e3 := (s4 i hi).2
    have eg : abL (w64 (swF V f (wpw V i) D - V 101 (4 + wpw V i))) = gapF V f (wpw V i) D := by unfold gapF; rw [w64_sl]
    rw [e_CH_isGood_1]
    by_cases h : gapF V f (wpw V i) D ≤ V 99 1
    · simp only [k_CH_isGood_1, e_CH_isGood_2, k_CH_isGood_2, rr, sh, Nat.reduceLT, Nat.reduceMul, Int.reduceToNat, Int.reduceGT, Int.reduceGE, Int.reduceNe, true_and, and_true, true_or, or_true, false_or, or_false, and_self, or_self, if_true, if_false, reduceIte, not_true_eq_false, not_false_eq_true, Int.reduceEq, Int.reduceNe, Int.reduceLT, Int.reduceLE, Int.reduceAdd, Int.reduceSub, Int.reduceMul, Int.reduceNeg, Nat.reduceAdd, Nat.reduceLeDiff, Nat.reduceEqDiff, ne_eq, List.length_cons, List.length_nil, Nat.reduceSub, s2, c1, p2, j1, e3, q_absL, eg, c3_le, h, kw]
      refine ih fun j hj => ?_
      by_cases e : j = i
      · subst e; exact h
      · exact ha j (Nat.lt_of_le_of_ne (Nat.le_of_lt_succ hj) e)
    · simp only [k_CH_isGood_1, e_CH_isGood_2, k_CH_isGood_2, rr, sh, Nat.reduceLT, Nat.reduceMul, Int.reduceToNat, Int.reduceGT, Int.reduceGE, Int.reduceNe, true_and, and_true, true_or, or_true, false_or, or_false, and_self, or_self, if_true, if_false, reduceIte, not_true_eq_false, not_false_eq_true, Int.reduceEq, Int.reduceNe, Int.reduceLT, Int.reduceLE, Int.reduceAdd, Int.reduceSub, Int.reduceMul, Int.reduceNeg, Nat.reduceAdd, Nat.reduceLeDiff, Nat.reduceEqDiff, ne_eq, List.length_cons, List.length_nil, Nat.reduceSub, s2, c1, p2, j1, e3, q_absL, eg, c3_le, h]
      exact h0 fun z => h (z i hi)
set_option maxRecDepth 20000 in
theorem c_chExchange (hI : Inq V) (hH : Vw V H) {D : Nat} {f : Nat → Int} (hC : ChS V D f H) (hf : fOk f) {a b : Nat} (ha : a < nS V) (hb : b < nS V) (hab : a ≠ b) (hQ : ∀ H', Vw V H' → ChS V D (swf a b f) H' → Q vu H') : CC d CH_exchange [va 50, vi a, vi b] H Q := by
  have hn := hI.boat.s
  have hw := wcn_le V 4
  have a12 : a < 12 := Nat.lt_of_lt_of_le ha hn.2
  have b12 : b < 12 := Nat.lt_of_lt_of_le hb hn.2
  have ja : 0 ≤ (a : Int) ∧ (a : Int) < 12 := by omega
  have jb : 0 ≤ (b : Int) ∧ (b : Int) < 12 := by omega
  have fa := hf a a12
  have fb := hf b b12
  have w1 : w32 (f b - f a) = f b - f a := w32_id (by omega) (by omega)
  have e0 := (chP hI hH).1
  have eb := hC.2.2.1 b b12
  have ea := hC.2.2.1 a a12
  obtain ⟨s1, s2, s3, s4⟩ := hC
  simp only [en_CH_exchange, e_CH_exchange_0, k_CH_exchange_0, rr, sh, Nat.reduceLT, Nat.reduceMul, Int.reduceToNat, Int.reduceGT, Int.reduceGE, Int.reduceNe, true_and, and_true, true_or, or_true, false_or, or_false, and_self, or_self, if_true, if_false, reduceIte, not_true_eq_false, not_false_eq_true, Int.reduceEq, Int.reduceNe, Int.reduceLT, Int.reduceLE, Int.reduceAdd, Int.reduceSub, Int.reduceMul, Int.reduceNeg, Nat.reduceAdd, Nat.reduceLeDiff, Nat.reduceEqDiff, ne_eq, List.length_cons, List.length_nil, Nat.reduceSub, e0, ja, jb, ea, eb, w1]
  refine up_nat (P := fun m => ∀ H' (z : AV), Vw V H' → H' 50 4 = D → H' 50 3 = wcn V 4 → (∀ k : Nat, k < 12 → H' 51 k = f k) → (∀ i : Nat, i < wcn V 4 → (∀ k : Nat, k < nS V → H' 52 ((12 * i + k : Nat) : Int) = sgn (D.testBit k) (lvr V (wpw V i) k)) ∧ H' 53 i = if i < m then w64 (swF V (swf a b f) (wpw V i) D - V 101 (4 + wpw V i)) else w64 (swF V f (wpw V i) D - V 101 (4 + wpw V i))) → R d CH_exchange (blk CH_exchange 1) [va 50, vi a, vi b, vl (f b - f a), vu, vi m, z] [] H' Q) ?_ ?_ 0 (Nat.zero_le (wcn V 4)) H vu hH s1 s2 s3 (fun i hi => ⟨(s4 i hi).1, by rw [if_neg (Nat.not_lt_zero i)]; exact (s4 i hi).2⟩)
  · intro H' z b1 b2 b3 b4 b5
    have p0 := (chP hI b1).1
    have y0 : ∀ v, hs H' 51 a v 50 0 = 51 := fun v => (hs_ne' (by decide)).trans p0
    have x1 := b4 a a12
    have x2 := b4 b b12
    rw [e_CH_exchange_1]
    simp only [k_CH_exchange_1, e_CH_exchange_2, k_CH_exchange_2, rr, sh, Nat.reduceLT, Nat.reduceMul, Int.reduceToNat, Int.reduceGT, Int.reduceGE, Int.reduceNe, true_and, and_true, true_or, or_true, false_or, or_false, and_self, or_self, if_true, if_false, reduceIte, not_true_eq_false, not_false_eq_true, Int.reduceEq, Int.reduceNe, Int.reduceLT, Int.reduceLE, Int.reduceAdd, Int.reduceSub, Int.reduceMul, Int.reduceNeg, Nat.reduceAdd, Nat.reduceLeDiff, Nat.reduceEqDiff, ne_eq, List.length_cons, List.length_nil, Nat.reduceSub, b3, Int.le_refl, p0, ja, jb, x1, x2, y0]
    refine hQ _ ((b1.hs (c := 51) rfl).hs (c := 51) rfl) ⟨?_, ?_, fun k hk => ?_, fun i hi => ⟨fun k hk => ?_, ?_⟩⟩
    · rw [hs_ne' (by decide), hs_ne' (by decide)]; exact b2
    · rw [hs_ne' (by decide), hs_ne' (by decide)]; exact b3
    · rw [hs_at, hs_at]
      unfold swf
      simp only [Int.ofNat_inj]
      by_cases h1 : k = b
      · subst h1; rw [if_pos rfl, if_neg (fun z => hab z.symm), if_pos rfl]
      · rw [if_neg h1]
        by_cases h2 : k = a
        · rw [if_pos h2, if_pos h2]
        · rw [if_neg h2, if_neg h2, if_neg h1]; exact b4 k hk
    · rw [hs_ne' (by decide), hs_ne' (by decide)]; exact (b5 i hi).1 k hk
    · rw [hs_ne' (by decide), hs_ne' (by decide)]
      have := (b5 i hi).2
      rw [if_pos hi] at this
      exact this
  · intro m hm ih H' z b1 b2 b3 b4 b5
    have c1 : ¬ (wcn V 4 : Int) ≤ m := by clear ih b5 w1; omega
    have j1 : 0 ≤ (m : Int) ∧ (m : Int) < 4 := by clear ih b5 w1; omega
    have kw := w32_s (n := m) (by clear ih b5 w1; omega)
    have w2 : w32 ((m : Int) * 12) = 12 * (m : Int) := by rw [w32_id (by clear ih b5 w1 kw; omega) (by clear ih b5 w1 kw; omega)]; clear ih b5 w1 kw; omega
    have w3 : w32 (12 * (m : Int) + a) = ((12 * m + a : Nat) : Int) := by rw [w32_id (by clear ih b5 w1 kw w2; omega) (by clear ih b5 w1 kw w2; omega)]; clear ih b5 w1 kw w2; omega
    have w4 : w32 (12 * (m : Int) + b) = ((12 * m + b : Nat) : Int) := by rw [w32_id (by clear ih b5 w1 kw w2 w3; omega) (by clear ih b5 w1 kw w2 w3; omega)]; clear ih b5 w1 kw w2 w3; omega
    have ka : 0 ≤ ((12 * m + a : Nat) : Int) ∧ ((12 * m + a : Nat) : Int) < 48 := by clear ih b5 w1 kw w2 w3 w4; omega
    have kb : 0 ≤ ((12 * m + b : Nat) : Int) ∧ ((12 * m + b : Nat) : Int) < 48 := by clear ih b5 w1 kw w2 w3 w4; omega
    obtain ⟨p0, p1, p2⟩ := chP hI b1
    obtain ⟨l1, l2⟩ := b5 m hm
    rw [if_neg (Nat.lt_irrefl m)] at l2
    have la := l1 a ha
    have lb := l1 b hb
    have hg : w64 (w64 (swF V f (wpw V m) D - V 101 (4 + wpw V m)) + w64 ((f b - f a) * w64 (sgn (D.testBit a) (lvr V (wpw V m) a) - sgn (D.testBit b) (lvr V (wpw V m) b)))) = w64 (swF V (swf a b f) (wpw V m) D - V 101 (4 + wpw V m)) := by
      rw [w64_mr, w64_al, w64_ar, swF_swf ha hb hab]
      refine congrArg w64 ?_
      generalize (f b - f a) * (sgn (D.testBit a) (lvr V (wpw V m) a) - sgn (D.testBit b) (lvr V (wpw V m) b)) = x
      clear ih b5 w1 kw w2 w3 w4 l1 l2 la lb
      omega
    rw [e_CH_exchange_1]
    simp only [k_CH_exchange_1, rr, sh, Nat.reduceLT, Nat.reduceMul, Int.reduceToNat, Int.reduceGT, Int.reduceGE, Int.reduceNe, true_and, and_true, true_or, or_true, false_or, or_false, and_self, or_self, if_true, if_false, reduceIte, not_true_eq_false, not_false_eq_true, Int.reduceEq, Int.reduceNe, Int.reduceLT, Int.reduceLE, Int.reduceAdd, Int.reduceSub, Int.reduceMul, Int.reduceNeg, Nat.reduceAdd, Nat.reduceLeDiff, Nat.reduceEqDiff, ne_eq, List.length_cons, List.length_nil, Nat.reduceSub, b3, c1, w2, p1, p2, j1, l2, w3, w4, ka, kb, la, lb, hg, kw]
    refine ih _ _ (b1.hs (c := 53) rfl) ?_ ?_ (fun k hk => ?_) (fun i hi => ⟨fun k hk => ?_, ?_⟩)
    · rw [hs_ne' (by decide)]; exact b2
    · rw [hs_ne' (by decide)]; exact b3
    · rw [hs_ne' (by decide)]; exact b4 k hk
    · rw [hs_ne' (by decide)]; exact (b5 i hi).1 k hk
    · rw [hs_at]
      by_cases e : i = m
      · subst e; rw [if_pos rfl, if_pos (Nat.lt_succ_self i)]
      · rw [if_neg (fun z => e (Int.ofNat_inj.mp z)), (b5 i hi).2]
        by_cases e2 : i < m
        · rw [if_pos e2, if_pos (Nat.lt_succ_of_lt e2)]
        · rw [if_neg e2, if_neg (fun z => e2 (Nat.lt_of_le_of_ne (Nat.le_of_lt_succ z) e))]
set_option maxRecDepth 20000 in
theorem c_chFlip (hI : Inq V) (hH : Vw V H) {D : Nat} {f : Nat → Int} (hC : ChS V D f H) (hD : D < 4096) (hf : fOk f) {s : Nat} (hs' : s < nS V) (hQ : ∀ H', Vw V H' → ChS V (D ^^^ 1 * 2 ^ s) f H' → Q vu H') : CC d CH_flip [va 50, vi s] H Q := by
  have hn := hI.boat.s
  have hw := wcn_le V 4
  have s12 : s < 12 := Nat.lt_of_lt_of_le hs' hn.2
  have js : 0 ≤ (s : Int) ∧ (s : Int) < 12 := by omega
  have fs := hf s s12
  have hp : (1 : Nat) * 2 ^ s < 4096 := by
    rw [Nat.one_mul]
    exact Nat.lt_of_le_of_lt (Nat.pow_le_pow_right (n := 2) (j := 11) (by decide) (Nat.le_of_lt_succ s12)) (by decide)
  have w1 : b_shl 1 s = ((1 * 2 ^ s : Nat) : Int) := b_shl_nat (a := 1) (Nat.lt_trans s12 (by decide)) (Nat.lt_trans hp (by decide))
  have w0 : b_xor (D : Int) ((1 * 2 ^ s : Nat) : Int) = ((D ^^^ 1 * 2 ^ s : Nat) : Int) := b_xor_nat (Nat.lt_trans hD (by decide)) (Nat.lt_trans hp (by decide))
  obtain ⟨s1, s2, s3, s4⟩ := hC
  simp only [en_CH_flip, e_CH_flip_0, k_CH_flip_0, rr, sh, Nat.reduceLT, Nat.reduceMul, Int.reduceToNat, Int.reduceGT, Int.reduceGE, Int.reduceNe, true_and, and_true, true_or, or_true, false_or, or_false, and_self, or_self, if_true, if_false, reduceIte, not_true_eq_false, not_false_eq_true, Int.reduceEq, Int.reduceNe, Int.reduceLT, Int.reduceLE, Int.reduceAdd, Int.reduceSub, Int.reduceMul, Int.reduceNeg, Nat.reduceAdd, Nat.reduceLeDiff, Nat.reduceEqDiff, ne_eq, List.length_cons, List.length_nil, Nat.reduceSub, s1, w1, w0]
  refine up_nat (P := fun m => ∀ H' (z : AV), Vw V H' → H' 50 4 = ((D ^^^ 1 * 2 ^ s : Nat) : Int) → H' 50 3 = wcn V 4 → (∀ k : Nat, k < 12 → H' 51 k = f k) → (∀ i : Nat, i < wcn V 4 → (∀ k : Nat, k < nS V → H' 52 ((12 * i + k : Nat) : Int) = if i < m then sgn ((D ^^^ 1 * 2 ^ s).testBit k) (lvr V (wpw V i) k) else sgn (D.testBit k) (lvr V (wpw V i) k)) ∧ H' 53 i = if i < m then w64 (swF V f (wpw V i) (D ^^^ 1 * 2 ^ s) - V 101 (4 + wpw V i)) else w64 (swF V f (wpw V i) D - V 101 (4 + wpw V i))) → R d CH_flip (blk CH_flip 1) [va 50, vi s, vi m, z] [] H' Q) ?_ ?_ 0 (Nat.zero_le (wcn V 4)) _ vu (hH.hs (c := 50) (j := 4) rfl) hs_same ?_ (fun k hk => ?_) (fun i hi => ⟨fun k hk => ?_, ?_⟩)
  · intro H' z b1 b2 b3 b4 b5
    rw [e_CH_flip_1]
    simp only [k_CH_flip_1, e_CH_flip_2, k_CH_flip_2, rr, sh, Nat.reduceLT, Nat.reduceMul, Int.reduceToNat, Int.reduceGT, Int.reduceGE, Int.reduceNe, true_and, and_true, true_or, or_true, false_or, or_false, and_self, or_self, if_true, if_false, reduceIte, not_true_eq_false, not_false_eq_true, Int.reduceEq, Int.reduceNe, Int.reduceLT, Int.reduceLE, Int.reduceAdd, Int.reduceSub, Int.reduceMul, Int.reduceNeg, Nat.reduceAdd, Nat.reduceLeDiff, Nat.reduceEqDiff, ne_eq, List.length_cons, List.length_nil, Nat.reduceSub, b3, Int.le_refl]
    refine hQ _ b1 ⟨b2, b3, b4, fun i hi => ⟨fun k hk => ?_, ?_⟩⟩
    · have := (b5 i hi).1 k hk
      rw [if_pos hi] at this
      exact this
    · have := (b5 i hi).2
      rw [if_pos hi] at this
      exact this
  · intro m hm ih H' z b1 b2 b3 b4 b5
    have c1 : ¬ (wcn V 4 : Int) ≤ m := by clear ih b5 w1 w0 hp; omega
    have j1 : 0 ≤ (m : Int) ∧ (m : Int) < 4 := by clear ih b5 w1 w0 hp; omega
    have kw := w32_s (n := m) (by clear ih b5 w1 w0 hp; omega)
    have w2 : w32 (w32 ((m : Int) * 12) + s) = ((12 * m + s : Nat) : Int) := by
      rw [w32_id (x := (m : Int) * 12) (by clear ih b5 w1 w0 hp kw; omega) (by clear ih b5 w1 w0 hp kw; omega), w32_id (by clear ih b5 w1 w0 hp kw; omega) (by clear ih b5 w1 w0 hp kw; omega)]; clear ih b5 w1 w0 hp kw; omega
    have w3 : w32 (2 * f s) = 2 * f s := w32_id (by clear ih b5 w1 w0 hp kw w2; omega) (by clear ih b5 w1 w0 hp kw w2; omega)
    have ka : 0 ≤ ((12 * m + s : Nat) : Int) ∧ ((12 * m + s : Nat) : Int) < 48 := by clear ih b5 w1 w0 hp kw w2; omega
    obtain ⟨p0, p1, p2⟩ := chP hI b1
    obtain ⟨l1, l2⟩ := b5 m hm
    rw [if_neg (Nat.lt_irrefl m)] at l2
    have ls := l1 s hs'
    rw [if_neg (Nat.lt_irrefl m)] at ls
    have f3 := b4 s s12
    have hlr := sgn_rng (b := D.testBit s) (lvr_rng hI.m (wpw_lt V hm) hs')
    have wn : w64 (-(sgn (D.testBit s) (lvr V (wpw V m) s))) = sgn ((D ^^^ 1 * 2 ^ s).testBit s) (lvr V (wpw V m) s) := by
      rw [xor_bit, decide_eq_true rfl, sgn_xt]
      generalize sgn (D.testBit s) (lvr V (wpw V m) s) = x at hlr ⊢
      exact w64_id (by have := hlr.2; clear ih b5 w1 w0 hp kw w2 w3 ls l1 l2; omega) (by have := hlr.1; clear ih b5 w1 w0 hp kw w2 w3 ls l1 l2; omega)
    have hg : w64 (w64 (swF V f (wpw V m) D - V 101 (4 + wpw V m)) - w64 (2 * f s * sgn (D.testBit s) (lvr V (wpw V m) s))) = w64 (swF V f (wpw V m) (D ^^^ 1 * 2 ^ s) - V 101 (4 + wpw V m)) := by
      rw [w64_sl, w64_sr, swF_flip hs']
      refine congrArg w64 ?_
      generalize 2 * f s * sgn (D.testBit s) (lvr V (wpw V m) s) = x
      clear ih b5 w1 w0 hp kw w2 w3 ls l1 l2 wn
      omega
    have y0 : ∀ v, hs H' 53 m v 50 1 = 52 := fun v => (hs_ne' (by decide)).trans p1
    have y1 : ∀ v, hs H' 53 m v 52 ((12 * m + s : Nat) : Int) = sgn (D.testBit s) (lvr V (wpw V m) s) := fun v => (hs_ne' (by decide)).trans ls
    rw [e_CH_flip_1]
    simp only [k_CH_flip_1, rr, sh, Nat.reduceLT, Nat.reduceMul, Int.reduceToNat, Int.reduceGT, Int.reduceGE, Int.reduceNe, true_and, and_true, true_or, or_true, false_or, or_false, and_self, or_self, if_true, if_false, reduceIte, not_true_eq_false, not_false_eq_true, Int.reduceEq, Int.reduceNe, Int.reduceLT, Int.reduceLE, Int.reduceAdd, Int.reduceSub, Int.reduceMul, Int.reduceNeg, Nat.reduceAdd, Nat.reduceLeDiff, Nat.reduceEqDiff, ne_eq, List.length_cons, List.length_nil, Nat.reduceSub, b3, c1, w2, p0, p1, p2, j1, js, l2, f3, w3, ka, ls, hg, y0, y1, wn, kw]
    refine ih _ _ ((b1.hs (c := 53) rfl).hs (c := 52) rfl) ?_ ?_ (fun k hk => ?_) (fun i hi => ⟨fun k hk => ?_, ?_⟩)
    · rw [hs_ne' (by decide), hs_ne' (by decide)]; exact b2
    · rw [hs_ne' (by decide), hs_ne' (by decide)]; exact b3
    · rw [hs_ne' (by decide), hs_ne' (by decide)]; exact b4 k hk
    · have hk12 : k < 12 := Nat.lt_of_lt_of_le hk hn.2
      rw [hs_at]
      by_cases e : i = m ∧ k = s
      · obtain ⟨rfl, rfl⟩ := e
        rw [if_pos rfl, if_pos (Nat.lt_succ_self i)]
      · have n1 : ¬ ((12 * i + k : Nat) : Int) = ((12 * m + s : Nat) : Int) := by clear ih b5 w1 w0 hp kw w2 w3 ls l1 l2 wn hg; omega
        rw [if_neg n1, hs_ne' (by decide), (b5 i hi).1 k hk]
        by_cases e2 : i < m
        · rw [if_pos e2, if_pos (Nat.lt_succ_of_lt e2)]
        · rw [if_neg e2]
          by_cases e3 : i = m
          · subst e3
            rw [if_pos (Nat.lt_succ_self i), xor_bit, decide_eq_false (fun z => e ⟨rfl, z.symm⟩), Bool.xor_false]
          · rw [if_neg (fun z => e2 (Nat.lt_of_le_of_ne (Nat.le_of_lt_succ z) e3))]
    · rw [hs_ne' (by decide), hs_at]
      by_cases e : i = m
      · subst e; rw [if_pos rfl, if_pos (Nat.lt_succ_self i)]
      · rw [if_neg (fun z => e (Int.ofNat_inj.mp z)), (b5 i hi).2]
        by_cases e2 : i < m
        · rw [if_pos e2, if_pos (Nat.lt_succ_of_lt e2)]
        · rw [if_neg e2, if_neg (fun z => e2 (Nat.lt_of_le_of_ne (Nat.le_of_lt_succ z) e))]
  · rw [hs2 (by decide)]; exact s2
  · rw [hs_ne' (by decide)]; exact s3 k hk
  · rw [if_neg (Nat.not_lt_zero i), hs_ne' (by decide)]; exact (s4 i hi).1 k hk
  · rw [if_neg (Nat.not_lt_zero i), hs_ne' (by decide)]; exact (s4 i hi).2
end CS
