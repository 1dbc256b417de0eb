/-! changes: the class's search; the pair -/
def tGo (V : Hp) (t lo D : Nat) (f : Nat → Int) : Prop := ∃ E, PathT (nS V) (fxV V) t lo D E ∧ RgV V E f
def sGo (V : Hp) (s lo t D : Nat) (f : Nat → Int) : Prop := ∃ g, Path s lo (nS V) f g ∧ tGo V t 0 D g
section CF
variable {V : Hp}
set_option maxRecDepth 20000 in
theorem c_byTurns (hI : Inq V) : ∀ (t : Nat) {d lo D : Nat} {f : Nat → Int} {H : Hp} {Q : AV → Hp → Prop}, t ≤ 3 → lo ≤ nS V → D < 4096 → fOk f → Vw V H → ChS V D f H → (tGo V t lo D f → ∀ H', Vw V H' → ChS V D f H' → Q (vi 1) H') → (¬ tGo V t lo D f → ∀ H', Vw V H' → ChS V D f H' → Q (vi 0) H') → CC (d + t + 2) CH_byTurns [va 50, va (V 4 0), vi t, vi lo] H Q
  | 0, d, lo, D, f, H, Q, ht, hl, hD, hf, hH, hC, h1, h0 => by
    have e4 := hC.1
    have e12 := hI.plan.near
    have z1 := shp hI
    have hg : tGo V 0 lo D f ↔ RgV V D f := ⟨fun ⟨E, q1, q2⟩ => by
      have q1 : E = D := q1
      rw [← q1]; exact q2, fun q => ⟨D, rfl, q⟩⟩
    rw [hg] at h1 h0
    by_cases a1 : lawB V D = true
    · have f := hH.f hI.ptr; have g := pl_f hH hI.pp hI.ptr; simp only [en_CH_byTurns, e_CH_byTurns_0, k_CH_byTurns_0, e_CH_byTurns_1, k_CH_byTurns_1, e_CH_byTurns_2, k_CH_byTurns_2, rr, sh, Nat.reduceLT, Nat.reduceMul, Int.reduceToNat, Int.reduceGT, Int.reduceGE, Int.reduceNe, true_and, and_true, true_or, or_true, false_or, or_false, and_self, or_self, if_true, if_false, reduceIte, not_true_eq_false, not_false_eq_true, Int.reduceEq, Int.reduceNe, Int.reduceLT, Int.reduceLE, Int.reduceAdd, Int.reduceSub, Int.reduceMul, Int.reduceNeg, Nat.reduceAdd, Nat.reduceLeDiff, Nat.reduceEqDiff, ne_eq, List.length_cons, List.length_nil, Nat.reduceSub, ite10_0, ite10_1, ite10_01, Classical.not_not, f, g, z1, e4, q_allows hI hH hD, if_pos a1, e12] <;> clear f g e4 e12
      refine c_chGood hI hH hC (fun a2 => ?_) (fun a2 => ?_)
      · simp only [e_CH_byTurns_1, k_CH_byTurns_1, e_CH_byTurns_2, k_CH_byTurns_2, rr, sh, Nat.reduceLT, Nat.reduceMul, Int.reduceToNat, Int.reduceGT, Int.reduceGE, Int.reduceNe, true_and, and_true, true_or, or_true, false_or, or_false, and_self, or_self, if_true, if_false, reduceIte, not_true_eq_false, not_false_eq_true, Int.reduceEq, Int.reduceNe, Int.reduceLT, Int.reduceLE, Int.reduceAdd, Int.reduceSub, Int.reduceMul, Int.reduceNeg, Nat.reduceAdd, Nat.reduceLeDiff, Nat.reduceEqDiff, ne_eq, List.length_cons, List.length_nil, Nat.reduceSub]
        exact h1 ⟨a1, a2⟩ H hH hC
      · simp only [e_CH_byTurns_1, k_CH_byTurns_1, e_CH_byTurns_2, k_CH_byTurns_2, rr, sh, Nat.reduceLT, Nat.reduceMul, Int.reduceToNat, Int.reduceGT, Int.reduceGE, Int.reduceNe, true_and, and_true, true_or, or_true, false_or, or_false, and_self, or_self, if_true, if_false, reduceIte, not_true_eq_false, not_false_eq_true, Int.reduceEq, Int.reduceNe, Int.reduceLT, Int.reduceLE, Int.reduceAdd, Int.reduceSub, Int.reduceMul, Int.reduceNeg, Nat.reduceAdd, Nat.reduceLeDiff, Nat.reduceEqDiff, ne_eq, List.length_cons, List.length_nil, Nat.reduceSub]
        exact h0 (fun z => a2 z.2) H hH hC
    · have f := hH.f hI.ptr; have g := pl_f hH hI.pp hI.ptr; simp only [en_CH_byTurns, e_CH_byTurns_0, k_CH_byTurns_0, e_CH_byTurns_1, k_CH_byTurns_1, e_CH_byTurns_2, k_CH_byTurns_2, rr, sh, Nat.reduceLT, Nat.reduceMul, Int.reduceToNat, Int.reduceGT, Int.reduceGE, Int.reduceNe, true_and, and_true, true_or, or_true, false_or, or_false, and_self, or_self, if_true, if_false, reduceIte, not_true_eq_false, not_false_eq_true, Int.reduceEq, Int.reduceNe, Int.reduceLT, Int.reduceLE, Int.reduceAdd, Int.reduceSub, Int.reduceMul, Int.reduceNeg, Nat.reduceAdd, Nat.reduceLeDiff, Nat.reduceEqDiff, ne_eq, List.length_cons, List.length_nil, Nat.reduceSub, ite10_0, ite10_1, ite10_01, Classical.not_not, f, g, z1, e4, q_allows hI hH hD, if_neg a1] <;> clear f g e4
      exact h0 (fun z => a1 z.1) H hH hC
  | t + 1, d, lo, D, f, H, Q, ht, hl, hD, hf, hH, hC, h1, h0 => by
    have hn := hI.boat.s
    have hp0 := hI.plan.seats
    have c0 : 0 < ((t + 1 : Nat) : Int) := by omega
    have wt : w32 (((t + 1 : Nat) : Int) - 1) = t := by rw [w32_id (by omega) (by omega)]; omega
    simp only [en_CH_byTurns, e_CH_byTurns_0, k_CH_byTurns_0, e_CH_byTurns_3, k_CH_byTurns_3, rr, sh, Nat.reduceLT, Nat.reduceMul, Int.reduceToNat, Int.reduceGT, Int.reduceGE, Int.reduceNe, true_and, and_true, true_or, or_true, false_or, or_false, and_self, or_self, if_true, if_false, reduceIte, not_true_eq_false, not_false_eq_true, Int.reduceEq, Int.reduceNe, Int.reduceLT, Int.reduceLE, Int.reduceAdd, Int.reduceSub, Int.reduceMul, Int.reduceNeg, Nat.reduceAdd, Nat.reduceLeDiff, Nat.reduceEqDiff, ne_eq, List.length_cons, List.length_nil, Nat.reduceSub, c0]
    refine up_nat (P := fun s => lo ≤ s → ∀ (H' : Hp) (x : AV), Vw V H' → ChS V D f H' → (∀ s', lo ≤ s' → s' < s → ¬ fxV V s' → ¬ tGo V t (s' + 1) (D ^^^ 1 * 2 ^ s') f) → R (d + (t + 1) + 2) CH_byTurns (blk CH_byTurns 4) [va 50, va (V 4 0), vi ((t + 1 : Nat) : Int), vi lo, vi s, x] [] H' Q) ?_ ?_ lo hl (Nat.le_refl lo) H vu hH hC (fun s' q1 q2 => absurd (Nat.lt_of_le_of_lt q1 q2) (Nat.lt_irrefl _))
    · intro _ H' x b1 b2 b3
      have z1 := shp hI
      have hH := b1
      rw [e_CH_byTurns_4]
      have f := hH.f hI.ptr; have g := pl_f hH hI.pp hI.ptr; simp only [k_CH_byTurns_4, e_CH_byTurns_6, k_CH_byTurns_6, rr, sh, Nat.reduceLT, Nat.reduceMul, Int.reduceToNat, Int.reduceGT, Int.reduceGE, Int.reduceNe, true_and, and_true, true_or, or_true, false_or, or_false, and_self, or_self, if_true, if_false, reduceIte, not_true_eq_false, not_false_eq_true, Int.reduceEq, Int.reduceNe, Int.reduceLT, Int.reduceLE, Int.reduceAdd, Int.reduceSub, Int.reduceMul, Int.reduceNeg, Nat.reduceAdd, Nat.reduceLeDiff, Nat.reduceEqDiff, ne_eq, List.length_cons, List.length_nil, Nat.reduceSub, ite10_0, ite10_1, ite10_01, Classical.not_not, f, g, z1, hp0, Int.le_refl] <;> clear f g
      refine h0 (fun ⟨E, ⟨s', q1, q2, q3, q4⟩, q5⟩ => ?_) H' b1 b2
      exact b3 s' q1 q2 q3 ⟨E, q4, q5⟩
    · intro s hs' ih hlo H' x b1 b2 b3
      have c1 : ¬ (nS V : Int) ≤ s := by clear ih b3 wt hp0; omega
      have ks := w32_s (n := s) (by clear ih b3 wt hp0; omega)
      have z1 := shp hI
      have hH := b1
      have nx : ∀ (H' : Hp) (x : AV), Vw V H' → ChS V D f H' → (¬ fxV V s → ¬ tGo V t (s + 1) (D ^^^ 1 * 2 ^ s) f) → R (d + (t + 1) + 2) CH_byTurns (blk CH_byTurns 4) [va 50, va (V 4 0), vi ((t + 1 : Nat) : Int), vi lo, vi ((s + 1 : Nat) : Int), x] [] H' Q := fun H' x g1 g2 g3 => ih (Nat.le_succ_of_le hlo) H' x g1 g2 fun s' q1 q2 => by
        by_cases e : s' = s
        · subst e; exact g3
        · exact b3 s' q1 (Nat.lt_of_le_of_ne (Nat.le_of_lt_succ q2) e)
      rw [e_CH_byTurns_4]
      by_cases hfx : V 94 (12 + s) = 0
      · have hnf : ¬ fxV V s := fun z => z hfx
        have hD2 : D ^^^ 1 * 2 ^ s < 4096 := Nat.xor_lt_two_pow (n := 12) hD (by rw [Nat.one_mul]; exact Nat.pow_lt_pow_right (by decide) (Nat.lt_of_lt_of_le hs' hn.2))
        have f := hH.f hI.ptr; have g := pl_f hH hI.pp hI.ptr; simp only [k_CH_byTurns_4, rr, sh, Nat.reduceLT, Nat.reduceMul, Int.reduceToNat, Int.reduceGT, Int.reduceGE, Int.reduceNe, true_and, and_true, true_or, or_true, false_or, or_false, and_self, or_self, if_true, if_false, reduceIte, not_true_eq_false, not_false_eq_true, Int.reduceEq, Int.reduceNe, Int.reduceLT, Int.reduceLE, Int.reduceAdd, Int.reduceSub, Int.reduceMul, Int.reduceNeg, Nat.reduceAdd, Nat.reduceLeDiff, Nat.reduceEqDiff, ne_eq, List.length_cons, List.length_nil, Nat.reduceSub, ite10_0, ite10_1, ite10_01, Classical.not_not, f, g, z1, hp0, c1, q_isFixedC hI hH hs', hfx] <;> clear f g
        refine c_chFlip hI b1 b2 hD hf hs' fun H2 e1 e2 => ?_
        simp only [rr, sh, Nat.reduceLT, Nat.reduceMul, Int.reduceToNat, Int.reduceGT, Int.reduceGE, Int.reduceNe, true_and, and_true, true_or, or_true, false_or, or_false, and_self, or_self, if_true, if_false, reduceIte, not_true_eq_false, not_false_eq_true, Int.reduceEq, Int.reduceNe, Int.reduceLT, Int.reduceLE, Int.reduceAdd, Int.reduceSub, Int.reduceMul, Int.reduceNeg, Nat.reduceAdd, Nat.reduceLeDiff, Nat.reduceEqDiff, ne_eq, List.length_cons, List.length_nil, Nat.reduceSub, wt, ks]
        refine c_byTurns hI t (d := d) (Nat.le_of_succ_le ht) hs' hD2 hf e1 e2 (fun q H3 g1 g2 => ?_) (fun q H3 g1 g2 => ?_)
        · simp only [rr, sh, Nat.reduceLT, Nat.reduceMul, Int.reduceToNat, Int.reduceGT, Int.reduceGE, Int.reduceNe, true_and, and_true, true_or, or_true, false_or, or_false, and_self, or_self, if_true, if_false, reduceIte, not_true_eq_false, not_false_eq_true, Int.reduceEq, Int.reduceNe, Int.reduceLT, Int.reduceLE, Int.reduceAdd, Int.reduceSub, Int.reduceMul, Int.reduceNeg, Nat.reduceAdd, Nat.reduceLeDiff, Nat.reduceEqDiff, ne_eq, List.length_cons, List.length_nil, Nat.reduceSub]
          refine c_chFlip hI g1 g2 hD2 hf hs' fun H4 k1 k2 => ?_
          rw [xor_two] at k2
          try simp only [rr, sh, Nat.reduceLT, Nat.reduceMul, Int.reduceToNat, Int.reduceGT, Int.reduceGE, Int.reduceNe, true_and, and_true, true_or, or_true, false_or, or_false, and_self, or_self, if_true, if_false, reduceIte, not_true_eq_false, not_false_eq_true, Int.reduceEq, Int.reduceNe, Int.reduceLT, Int.reduceLE, Int.reduceAdd, Int.reduceSub, Int.reduceMul, Int.reduceNeg, Nat.reduceAdd, Nat.reduceLeDiff, Nat.reduceEqDiff, ne_eq, List.length_cons, List.length_nil, Nat.reduceSub]
          obtain ⟨E, q1, q2⟩ := q
          exact h1 ⟨E, ⟨s, hlo, hs', hnf, q1⟩, q2⟩ H4 k1 k2
        · simp only [rr, sh, Nat.reduceLT, Nat.reduceMul, Int.reduceToNat, Int.reduceGT, Int.reduceGE, Int.reduceNe, true_and, and_true, true_or, or_true, false_or, or_false, and_self, or_self, if_true, if_false, reduceIte, not_true_eq_false, not_false_eq_true, Int.reduceEq, Int.reduceNe, Int.reduceLT, Int.reduceLE, Int.reduceAdd, Int.reduceSub, Int.reduceMul, Int.reduceNeg, Nat.reduceAdd, Nat.reduceLeDiff, Nat.reduceEqDiff, ne_eq, List.length_cons, List.length_nil, Nat.reduceSub]
          refine c_chFlip hI g1 g2 hD2 hf hs' fun H4 k1 k2 => ?_
          rw [xor_two] at k2
          simp only [e_CH_byTurns_5, k_CH_byTurns_5, rr, sh, Nat.reduceLT, Nat.reduceMul, Int.reduceToNat, Int.reduceGT, Int.reduceGE, Int.reduceNe, true_and, and_true, true_or, or_true, false_or, or_false, and_self, or_self, if_true, if_false, reduceIte, not_true_eq_false, not_false_eq_true, Int.reduceEq, Int.reduceNe, Int.reduceLT, Int.reduceLE, Int.reduceAdd, Int.reduceSub, Int.reduceMul, Int.reduceNeg, Nat.reduceAdd, Nat.reduceLeDiff, Nat.reduceEqDiff, ne_eq, List.length_cons, List.length_nil, Nat.reduceSub, ks]
          exact nx H4 _ k1 k2 (fun _ => q)
      · have f := hH.f hI.ptr; have g := pl_f hH hI.pp hI.ptr; simp only [k_CH_byTurns_4, e_CH_byTurns_5, k_CH_byTurns_5, rr, sh, Nat.reduceLT, Nat.reduceMul, Int.reduceToNat, Int.reduceGT, Int.reduceGE, Int.reduceNe, true_and, and_true, true_or, or_true, false_or, or_false, and_self, or_self, if_true, if_false, reduceIte, not_true_eq_false, not_false_eq_true, Int.reduceEq, Int.reduceNe, Int.reduceLT, Int.reduceLE, Int.reduceAdd, Int.reduceSub, Int.reduceMul, Int.reduceNeg, Nat.reduceAdd, Nat.reduceLeDiff, Nat.reduceEqDiff, ne_eq, List.length_cons, List.length_nil, Nat.reduceSub, ite10_0, ite10_1, ite10_01, Classical.not_not, f, g, z1, hp0, c1, q_isFixedC hI hH hs', hfx, ks] <;> clear f g
        exact nx H' _ b1 b2 (fun z => absurd hfx z)
set_option maxRecDepth 20000 in
theorem c_bySwaps (hI : Inq V) {t D : Nat} (ht : t ≤ 3) (hD : D < 4096) : ∀ (s : Nat) {d lo : Nat} {f : Nat → Int} {H : Hp} {Q : AV → Hp → Prop}, s ≤ 3 → lo ≤ 20 → fOk f → Vw V H → ChS V D f H → (sGo V s lo t D f → ∀ H', Vw V H' → ChS V D f H' → Q (vi 1) H') → (¬ sGo V s lo t D f → ∀ H', Vw V H' → ChS V D f H' → Q (vi 0) H') → CC (d + t + s + 3) CH_bySwaps [va 50, va (V 4 0), vi s, vi t, vi lo] H Q
  | 0, d, lo, f, H, Q, hs3, hl, hf, hH, hC, h1, h0 => by
    have hg : sGo V 0 lo t D f ↔ tGo V t 0 D f := ⟨fun ⟨g, q1, q2⟩ => by
      have q1 : g = f := q1
      rw [← q1]; exact q2, fun q => ⟨f, rfl, q⟩⟩
    rw [hg] at h1 h0
    simp only [en_CH_bySwaps, e_CH_bySwaps_0, k_CH_bySwaps_0, rr, sh, Nat.reduceLT, Nat.reduceMul, Int.reduceToNat, Int.reduceGT, Int.reduceGE, Int.reduceNe, true_and, and_true, true_or, or_true, false_or, or_false, and_self, or_self, if_true, if_false, reduceIte, not_true_eq_false, not_false_eq_true, Int.reduceEq, Int.reduceNe, Int.reduceLT, Int.reduceLE, Int.reduceAdd, Int.reduceSub, Int.reduceMul, Int.reduceNeg, Nat.reduceAdd, Nat.reduceLeDiff, Nat.reduceEqDiff, ne_eq, List.length_cons, List.length_nil, Nat.reduceSub]
    refine c_byTurns hI t (d := d) (lo := 0) ht (Nat.zero_le _) hD hf hH hC (fun q H2 g1 g2 => ?_) (fun q H2 g1 g2 => ?_)
    · simp only [rr, sh, Nat.reduceLT, Nat.reduceMul, Int.reduceToNat, Int.reduceGT, Int.reduceGE, Int.reduceNe, true_and, and_true, true_or, or_true, false_or, or_false, and_self, or_self, if_true, if_false, reduceIte, not_true_eq_false, not_false_eq_true, Int.reduceEq, Int.reduceNe, Int.reduceLT, Int.reduceLE, Int.reduceAdd, Int.reduceSub, Int.reduceMul, Int.reduceNeg, Nat.reduceAdd, Nat.reduceLeDiff, Nat.reduceEqDiff, ne_eq, List.length_cons, List.length_nil, Nat.reduceSub]
      exact h1 q H2 g1 g2
    · simp only [rr, sh, Nat.reduceLT, Nat.reduceMul, Int.reduceToNat, Int.reduceGT, Int.reduceGE, Int.reduceNe, true_and, and_true, true_or, or_true, false_or, or_false, and_self, or_self, if_true, if_false, reduceIte, not_true_eq_false, not_false_eq_true, Int.reduceEq, Int.reduceNe, Int.reduceLT, Int.reduceLE, Int.reduceAdd, Int.reduceSub, Int.reduceMul, Int.reduceNeg, Nat.reduceAdd, Nat.reduceLeDiff, Nat.reduceEqDiff, ne_eq, List.length_cons, List.length_nil, Nat.reduceSub]
      exact h0 q H2 g1 g2
  | s + 1, d, lo, f, H, Q, hs3, hl, hf, hH, hC, h1, h0 => by
    have hn := hI.boat.s
    have hp0 := hI.plan.seats
    have c0 : 0 < ((s + 1 : Nat) : Int) := by omega
    have wt : w32 (((s + 1 : Nat) : Int) - 1) = s := by rw [w32_id (by omega) (by omega)]; omega
    simp only [en_CH_bySwaps, e_CH_bySwaps_0, k_CH_bySwaps_0, e_CH_bySwaps_1, k_CH_bySwaps_1, rr, sh, Nat.reduceLT, Nat.reduceMul, Int.reduceToNat, Int.reduceGT, Int.reduceGE, Int.reduceNe, true_and, and_true, true_or, or_true, false_or, or_false, and_self, or_self, if_true, if_false, reduceIte, not_true_eq_false, not_false_eq_true, Int.reduceEq, Int.reduceNe, Int.reduceLT, Int.reduceLE, Int.reduceAdd, Int.reduceSub, Int.reduceMul, Int.reduceNeg, Nat.reduceAdd, Nat.reduceLeDiff, Nat.reduceEqDiff, ne_eq, List.length_cons, List.length_nil, Nat.reduceSub, c0]
    refine up_nat (P := fun b => lo ≤ b → ∀ (H' : Hp) (x y : AV), Vw V H' → ChS V D f H' → (∀ b' a', lo ≤ b' → b' < b → a' < b' → f a' ≠ f b' → ¬ sGo V s (b' + 1) t D (swf a' b' f)) → R (d + t + (s + 1) + 3) CH_bySwaps (blk CH_bySwaps 2) [va 50, va (V 4 0), vi ((s + 1 : Nat) : Int), vi t, vi lo, vi b, x, y] [] H' Q) ?_ ?_ lo (Nat.le_max_left lo (nS V)) (Nat.le_refl lo) H vu vu hH hC (fun b' a' q1 q2 => absurd (Nat.lt_of_le_of_lt q1 q2) (Nat.lt_irrefl _))
    · intro _ H' x y b1 b2 b3
      have z1 := shp hI
      have hH := b1
      have c1 : (nS V : Int) ≤ ((max lo (nS V) : Nat) : Int) := by clear b3 wt hp0 z1; omega
      rw [e_CH_bySwaps_2]
      have f := hH.f hI.ptr; have g := pl_f hH hI.pp hI.ptr; simp only [k_CH_bySwaps_2, e_CH_bySwaps_6, k_CH_bySwaps_6, rr, sh, Nat.reduceLT, Nat.reduceMul, Int.reduceToNat, Int.reduceGT, Int.reduceGE, Int.reduceNe, true_and, and_true, true_or, or_true, false_or, or_false, and_self, or_self, if_true, if_false, reduceIte, not_true_eq_false, not_false_eq_true, Int.reduceEq, Int.reduceNe, Int.reduceLT, Int.reduceLE, Int.reduceAdd, Int.reduceSub, Int.reduceMul, Int.reduceNeg, Nat.reduceAdd, Nat.reduceLeDiff, Nat.reduceEqDiff, ne_eq, List.length_cons, List.length_nil, Nat.reduceSub, ite10_0, ite10_1, ite10_01, Classical.not_not, f, g, z1, hp0, c1] <;> clear f g
      refine h0 (fun ⟨g, ⟨a, b, q1, q2, q3, q4, q5⟩, q6⟩ => ?_) H' b1 b2
      exact b3 b a q1 (Nat.lt_of_lt_of_le q2 (Nat.le_max_right _ _)) q3 q4 ⟨g, q5, q6⟩
    · intro b hb ih hlo H' x y b1 b2 b3
      have hbn : b < nS V := by clear ih b3 wt hp0; omega
      have hb12 : b < 12 := Nat.lt_of_lt_of_le hbn hn.2
      have c1 : ¬ (nS V : Int) ≤ b := by clear ih b3 wt hp0; omega
      have kb := w32_s (n := b) (by clear ih b3 wt hp0; omega)
      have z1 := shp hI
      have hH := b1
      rw [e_CH_bySwaps_2]
      have f := hH.f hI.ptr; have g := pl_f hH hI.pp hI.ptr; simp only [k_CH_bySwaps_2, rr, sh, Nat.reduceLT, Nat.reduceMul, Int.reduceToNat, Int.reduceGT, Int.reduceGE, Int.reduceNe, true_and, and_true, true_or, or_true, false_or, or_false, and_self, or_self, if_true, if_false, reduceIte, not_true_eq_false, not_false_eq_true, Int.reduceEq, Int.reduceNe, Int.reduceLT, Int.reduceLE, Int.reduceAdd, Int.reduceSub, Int.reduceMul, Int.reduceNeg, Nat.reduceAdd, Nat.reduceLeDiff, Nat.reduceEqDiff, ne_eq, List.length_cons, List.length_nil, Nat.reduceSub, ite10_0, ite10_1, ite10_01, Classical.not_not, f, g, z1, hp0, c1] <;> clear f g
      refine up_nat (P := fun a => ∀ (H' : Hp) (y : AV), Vw V H' → ChS V D f H' → (∀ a', a' < a → f a' ≠ f b → ¬ sGo V s (b + 1) t D (swf a' b f)) → R (d + t + (s + 1) + 3) CH_bySwaps (blk CH_bySwaps 3) [va 50, va (V 4 0), vi ((s + 1 : Nat) : Int), vi t, vi lo, vi b, vi a, y] [] H' Q) ?_ ?_ 0 (Nat.zero_le b) H' y b1 b2 (fun a' q => absurd q (Nat.not_lt_zero a'))
      · intro H2 y2 g1 g2 g3
        rw [e_CH_bySwaps_3]
        simp only [k_CH_bySwaps_3, e_CH_bySwaps_5, k_CH_bySwaps_5, rr, sh, Nat.reduceLT, Nat.reduceMul, Int.reduceToNat, Int.reduceGT, Int.reduceGE, Int.reduceNe, true_and, and_true, true_or, or_true, false_or, or_false, and_self, or_self, if_true, if_false, reduceIte, not_true_eq_false, not_false_eq_true, Int.reduceEq, Int.reduceNe, Int.reduceLT, Int.reduceLE, Int.reduceAdd, Int.reduceSub, Int.reduceMul, Int.reduceNeg, Nat.reduceAdd, Nat.reduceLeDiff, Nat.reduceEqDiff, ne_eq, List.length_cons, List.length_nil, Nat.reduceSub, Int.le_refl, kb]
        refine ih (Nat.le_succ_of_le hlo) H2 _ _ g1 g2 fun b' a' q1 q2 q3 q4 => ?_
        by_cases e : b' = b
        · subst e; exact g3 a' q3 q4
        · exact b3 b' a' q1 (Nat.lt_of_le_of_ne (Nat.le_of_lt_succ q2) e) q3 q4
      · intro a ha iha H2 y2 g1 g2 g3
        have c2 : ¬ (b : Int) ≤ a := by clear ih iha b3 g3 wt kb z1; omega
        have ka := w32_s (n := a) (by clear ih iha b3 g3 wt kb z1; omega)
        have ja : 0 ≤ (a : Int) ∧ (a : Int) < 12 := by clear ih iha b3 g3 wt kb ka z1; omega
        have jb : 0 ≤ (b : Int) ∧ (b : Int) < 12 := by clear ih iha b3 g3 wt kb ka z1; omega
        have han : a < nS V := Nat.lt_trans ha hbn
        have p0 := (chP hI g1).1
        have ea := g2.2.2.1 a (Nat.lt_of_lt_of_le han hn.2)
        have eb := g2.2.2.1 b hb12
        have hne : a ≠ b := Nat.ne_of_lt ha
        have nx : ∀ (H' : Hp) (y : AV), Vw V H' → ChS V D f H' → (f a ≠ f b → ¬ sGo V s (b + 1) t D (swf a b f)) → R (d + t + (s + 1) + 3) CH_bySwaps (blk CH_bySwaps 3) [va 50, va (V 4 0), vi ((s + 1 : Nat) : Int), vi t, vi lo, vi b, vi ((a + 1 : Nat) : Int), y] [] H' Q := fun H' y k1 k2 k3 => iha H' y k1 k2 fun a' q1 => by
          by_cases e : a' = a
          · subst e; exact k3
          · exact g3 a' (Nat.lt_of_le_of_ne (Nat.le_of_lt_succ q1) e)
        rw [e_CH_bySwaps_3]
        by_cases hfe : f a = f b
        · simp only [k_CH_bySwaps_3, e_CH_bySwaps_4, k_CH_bySwaps_4, rr, sh, Nat.reduceLT, Nat.reduceMul, Int.reduceToNat, Int.reduceGT, Int.reduceGE, Int.reduceNe, true_and, and_true, true_or, or_true, false_or, or_false, and_self, or_self, if_true, if_false, reduceIte, not_true_eq_false, not_false_eq_true, Int.reduceEq, Int.reduceNe, Int.reduceLT, Int.reduceLE, Int.reduceAdd, Int.reduceSub, Int.reduceMul, Int.reduceNeg, Nat.reduceAdd, Nat.reduceLeDiff, Nat.reduceEqDiff, ne_eq, List.length_cons, List.length_nil, Nat.reduceSub, c2, p0, ja, jb, ea, eb, hfe, ka]
          exact nx H2 _ g1 g2 (fun z => absurd hfe z)
        · have hf2 := fOk_swf hf (Nat.lt_of_lt_of_le han hn.2) hb12
          simp only [k_CH_bySwaps_3, rr, sh, Nat.reduceLT, Nat.reduceMul, Int.reduceToNat, Int.reduceGT, Int.reduceGE, Int.reduceNe, true_and, and_true, true_or, or_true, false_or, or_false, and_self, or_self, if_true, if_false, reduceIte, not_true_eq_false, not_false_eq_true, Int.reduceEq, Int.reduceNe, Int.reduceLT, Int.reduceLE, Int.reduceAdd, Int.reduceSub, Int.reduceMul, Int.reduceNeg, Nat.reduceAdd, Nat.reduceLeDiff, Nat.reduceEqDiff, ne_eq, List.length_cons, List.length_nil, Nat.reduceSub, c2, p0, ja, jb, ea, eb, hfe]
          refine c_chExchange hI g1 g2 hf han hbn hne fun H3 e1 e2 => ?_
          simp only [rr, sh, Nat.reduceLT, Nat.reduceMul, Int.reduceToNat, Int.reduceGT, Int.reduceGE, Int.reduceNe, true_and, and_true, true_or, or_true, false_or, or_false, and_self, or_self, if_true, if_false, reduceIte, not_true_eq_false, not_false_eq_true, Int.reduceEq, Int.reduceNe, Int.reduceLT, Int.reduceLE, Int.reduceAdd, Int.reduceSub, Int.reduceMul, Int.reduceNeg, Nat.reduceAdd, Nat.reduceLeDiff, Nat.reduceEqDiff, ne_eq, List.length_cons, List.length_nil, Nat.reduceSub, wt, kb]
          refine c_bySwaps hI ht hD s (d := d) (Nat.le_of_succ_le hs3) (by clear ih iha b3 g3 wt kb ka z1; omega) hf2 e1 e2 (fun q H4 r1 r2 => ?_) (fun q H4 r1 r2 => ?_)
          · simp only [rr, sh, Nat.reduceLT, Nat.reduceMul, Int.reduceToNat, Int.reduceGT, Int.reduceGE, Int.reduceNe, true_and, and_true, true_or, or_true, false_or, or_false, and_self, or_self, if_true, if_false, reduceIte, not_true_eq_false, not_false_eq_true, Int.reduceEq, Int.reduceNe, Int.reduceLT, Int.reduceLE, Int.reduceAdd, Int.reduceSub, Int.reduceMul, Int.reduceNeg, Nat.reduceAdd, Nat.reduceLeDiff, Nat.reduceEqDiff, ne_eq, List.length_cons, List.length_nil, Nat.reduceSub]
            refine c_chExchange hI r1 r2 hf2 han hbn hne fun H5 k1 k2 => ?_
            rw [swf_two] at k2
            try simp only [rr, sh, Nat.reduceLT, Nat.reduceMul, Int.reduceToNat, Int.reduceGT, Int.reduceGE, Int.reduceNe, true_and, and_true, true_or, or_true, false_or, or_false, and_self, or_self, if_true, if_false, reduceIte, not_true_eq_false, not_false_eq_true, Int.reduceEq, Int.reduceNe, Int.reduceLT, Int.reduceLE, Int.reduceAdd, Int.reduceSub, Int.reduceMul, Int.reduceNeg, Nat.reduceAdd, Nat.reduceLeDiff, Nat.reduceEqDiff, ne_eq, List.length_cons, List.length_nil, Nat.reduceSub]
            obtain ⟨g, q1, q2⟩ := q
            exact h1 ⟨g, ⟨a, b, hlo, hbn, ha, hfe, q1⟩, q2⟩ H5 k1 k2
          · simp only [rr, sh, Nat.reduceLT, Nat.reduceMul, Int.reduceToNat, Int.reduceGT, Int.reduceGE, Int.reduceNe, true_and, and_true, true_or, or_true, false_or, or_false, and_self, or_self, if_true, if_false, reduceIte, not_true_eq_false, not_false_eq_true, Int.reduceEq, Int.reduceNe, Int.reduceLT, Int.reduceLE, Int.reduceAdd, Int.reduceSub, Int.reduceMul, Int.reduceNeg, Nat.reduceAdd, Nat.reduceLeDiff, Nat.reduceEqDiff, ne_eq, List.length_cons, List.length_nil, Nat.reduceSub]
            refine c_chExchange hI r1 r2 hf2 han hbn hne fun H5 k1 k2 => ?_
            rw [swf_two] at k2
            simp only [e_CH_bySwaps_4, k_CH_bySwaps_4, rr, sh, Nat.reduceLT, Nat.reduceMul, Int.reduceToNat, Int.reduceGT, Int.reduceGE, Int.reduceNe, true_and, and_true, true_or, or_true, false_or, or_false, and_self, or_self, if_true, if_false, reduceIte, not_true_eq_false, not_false_eq_true, Int.reduceEq, Int.reduceNe, Int.reduceLT, Int.reduceLE, Int.reduceAdd, Int.reduceSub, Int.reduceMul, Int.reduceNeg, Nat.reduceAdd, Nat.reduceLeDiff, Nat.reduceEqDiff, ne_eq, List.length_cons, List.length_nil, Nat.reduceSub, ka]
            exact nx H5 _ k1 k2 (fun _ => q)
theorem frS_ok (hM : Inm V) : fOk (frS V) := fun k hk => frc_rng hM hk hM.crew.stroke.1
set_option maxRecDepth 20000 in
theorem c_changesC (hI : Inq V) {d : Nat} {Q : AV → Hp → Prop} (hQ : ∀ H' r, Vw V H' → IsLst (ChC V) r → Q (vi r) H') : CC (d + 9) EO_changes [va 1] V Q := by
  have p1 : V 1 1 = 4 := hI.ptr (1, 1, 4) (by decide +kernel)
  have p6 : V 1 6 = 50 := hI.ptr (1, 6, 50) (by decide +kernel)
  have hDD := sdV_lt hI.m
  simp only [en_EO_changes, e_EO_changes_0, k_EO_changes_0, en_CH_fewest, e_CH_fewest_0, k_CH_fewest_0, rr, sh, Nat.reduceLT, Nat.reduceMul, Int.reduceToNat, Int.reduceGT, Int.reduceGE, Int.reduceNe, true_and, and_true, true_or, or_true, false_or, or_false, and_self, or_self, if_true, if_false, reduceIte, not_true_eq_false, not_false_eq_true, Int.reduceEq, Int.reduceNe, Int.reduceLT, Int.reduceLE, Int.reduceAdd, Int.reduceSub, Int.reduceMul, Int.reduceNeg, Nat.reduceAdd, Nat.reduceLeDiff, Nat.reduceEqDiff, ne_eq, List.length_cons, List.length_nil, Nat.reduceSub, p1, p6]
  refine c_chLoad (d := d + 3) hI Vw.rf fun H1 a1 a2 => ?_
  try simp only [rr, sh, Nat.reduceLT, Nat.reduceMul, Int.reduceToNat, Int.reduceGT, Int.reduceGE, Int.reduceNe, true_and, and_true, true_or, or_true, false_or, or_false, and_self, or_self, if_true, if_false, reduceIte, not_true_eq_false, not_false_eq_true, Int.reduceEq, Int.reduceNe, Int.reduceLT, Int.reduceLE, Int.reduceAdd, Int.reduceSub, Int.reduceMul, Int.reduceNeg, Nat.reduceAdd, Nat.reduceLeDiff, Nat.reduceEqDiff, ne_eq, List.length_cons, List.length_nil, Nat.reduceSub]
  refine up_nat (P := fun m => ∀ (H' : Hp) (y : AV), Vw V H' → ChS V (sdV V) (frS V) H' → (∀ j, j < m → ¬ ChC V j) → R (d + 8) CH_fewest (blk CH_fewest 1) [va 50, va 4, vi m, y] [] H' _) ?_ ?_ 0 (Nat.zero_le 4) H1 vu a1 a2 (fun j hj => absurd hj (Nat.not_lt_zero j))
  · intro H' y b1 b2 b3
    have c1 : (3 : Int) < ((4 : Nat) : Int) := by decide
    rw [e_CH_fewest_1]
    simp only [k_CH_fewest_1, e_CH_fewest_5, k_CH_fewest_5, rr, sh, Nat.reduceLT, Nat.reduceMul, Int.reduceToNat, Int.reduceGT, Int.reduceGE, Int.reduceNe, true_and, and_true, true_or, or_true, false_or, or_false, and_self, or_self, if_true, if_false, reduceIte, not_true_eq_false, not_false_eq_true, Int.reduceEq, Int.reduceNe, Int.reduceLT, Int.reduceLE, Int.reduceAdd, Int.reduceSub, Int.reduceMul, Int.reduceNeg, Nat.reduceAdd, Nat.reduceLeDiff, Nat.reduceEqDiff, ne_eq, List.length_cons, List.length_nil, Nat.reduceSub, c1]
    exact hQ H' (-1) b1 (Or.inl ⟨rfl, b3⟩)
  · intro m hm ih H' y b1 b2 b3
    have c1 : ¬ (3 : Int) < (m : Int) := by clear ih b3 hQ; omega
    have km := w32_s (n := m) (by clear ih b3 hQ; omega)
    rw [e_CH_fewest_1]
    simp only [k_CH_fewest_1, rr, sh, Nat.reduceLT, Nat.reduceMul, Int.reduceToNat, Int.reduceGT, Int.reduceGE, Int.reduceNe, true_and, and_true, true_or, or_true, false_or, or_false, and_self, or_self, if_true, if_false, reduceIte, not_true_eq_false, not_false_eq_true, Int.reduceEq, Int.reduceNe, Int.reduceLT, Int.reduceLE, Int.reduceAdd, Int.reduceSub, Int.reduceMul, Int.reduceNeg, Nat.reduceAdd, Nat.reduceLeDiff, Nat.reduceEqDiff, ne_eq, List.length_cons, List.length_nil, Nat.reduceSub, c1]
    have key := dn_nat (P := fun u => u ≤ m + 1 → ∀ (H' : Hp), Vw V H' → ChS V (sdV V) (frS V) H' → (∀ t, u ≤ t → t ≤ m → ¬ (canL V t ∧ sGo V (m - t) 1 t (sdV V) (frS V))) → R (d + 8) CH_fewest (blk CH_fewest 2) [va 50, va 4, vi m, vi ((u : Int) - 1)] [] H' (fun r H1 => R (d + 8 + 1) EO_changes [x_ri] [va 1] [r] H1 Q)) (lo := 0) ?_ ?_ (m + 1) (Nat.zero_le _) (Nat.le_refl _) H' b1 b2 (fun t q1 q2 => absurd (Nat.lt_of_lt_of_le q1 q2) (Nat.lt_irrefl _))
    · rw [show ((m + 1 : Nat) : Int) - 1 = m by clear ih b3 hQ key km; omega] at key
      exact key
    · intro _ H2 g1 g2 g3
      have c2 : ((0 : Nat) : Int) - 1 < 0 := by decide
      rw [e_CH_fewest_2]
      simp only [k_CH_fewest_2, e_CH_fewest_4, k_CH_fewest_4, rr, sh, Nat.reduceLT, Nat.reduceMul, Int.reduceToNat, Int.reduceGT, Int.reduceGE, Int.reduceNe, true_and, and_true, true_or, or_true, false_or, or_false, and_self, or_self, if_true, if_false, reduceIte, not_true_eq_false, not_false_eq_true, Int.reduceEq, Int.reduceNe, Int.reduceLT, Int.reduceLE, Int.reduceAdd, Int.reduceSub, Int.reduceMul, Int.reduceNeg, Nat.reduceAdd, Nat.reduceLeDiff, Nat.reduceEqDiff, ne_eq, List.length_cons, List.length_nil, Nat.reduceSub, c2, km]
      refine ih H2 _ g1 g2 fun j hj => ?_
      by_cases e : j = m
      · subst e
        rintro ⟨t, t1, t2, g, E, q1, q2, q3⟩
        exact g3 t (Nat.zero_le t) t1 ⟨t2, g, q1, E, q2, q3⟩
      · exact b3 j (Nat.lt_of_le_of_ne (Nat.le_of_lt_succ hj) e)
    · intro u hu ihu hum H2 g1 g2 g3
      obtain ⟨t, rfl⟩ : ∃ t, u = t + 1 := ⟨u - 1, by clear ih ihu b3 g3 hQ km; omega⟩
      have htm : t ≤ m := by clear ih ihu b3 g3 hQ km; omega
      have ht3 : t ≤ 3 := by clear ih ihu b3 g3 hQ km; omega
      have et : ((t + 1 : Nat) : Int) - 1 = t := by clear ih ihu b3 g3 hQ km; omega
      rw [et]
      have c2 : ¬ (t : Int) < 0 := by clear ih ihu b3 g3 hQ km et; omega
      have kt : w32 ((t : Int) + -1) = (t : Int) - 1 := w32_id (by clear ih ihu b3 g3 hQ km et; omega) (by clear ih ihu b3 g3 hQ km et; omega)
      have wmt : w32 ((m : Int) - t) = ((m - t : Nat) : Int) := by rw [w32_id (by clear ih ihu b3 g3 hQ km et kt; omega) (by clear ih ihu b3 g3 hQ km et kt; omega)]; clear ih ihu b3 g3 hQ km et kt; omega
      have e40 : ∀ {H}, Vw V H → H 4 0 = V 4 0 := fun {H} h => h 4 0 rfl
      have nx : ∀ H', Vw V H' → ChS V (sdV V) (frS V) H' → ¬ (canL V t ∧ sGo V (m - t) 1 t (sdV V) (frS V)) → R (d + 8) CH_fewest (blk CH_fewest 2) [va 50, va 4, vi m, vi ((t : Int) - 1)] [] H' (fun r H1 => R (d + 8 + 1) EO_changes [x_ri] [va 1] [r] H1 Q) := fun H' k1 k2 k3 => ihu (Nat.le_succ_of_le htm) H' k1 k2 fun t' q1 q2 => by
        by_cases e : t' = t
        · subst e; exact k3
        · exact g3 t' (Nat.lt_of_le_of_ne q1 (fun z => e z.symm)) q2
      rw [e_CH_fewest_2]
      simp only [k_CH_fewest_2, rr, sh, Nat.reduceLT, Nat.reduceMul, Int.reduceToNat, Int.reduceGT, Int.reduceGE, Int.reduceNe, true_and, and_true, true_or, or_true, false_or, or_false, and_self, or_self, if_true, if_false, reduceIte, not_true_eq_false, not_false_eq_true, Int.reduceEq, Int.reduceNe, Int.reduceLT, Int.reduceLE, Int.reduceAdd, Int.reduceSub, Int.reduceMul, Int.reduceNeg, Nat.reduceAdd, Nat.reduceLeDiff, Nat.reduceEqDiff, ne_eq, List.length_cons, List.length_nil, Nat.reduceSub, c2, e40 g1]
      refine c_canBeLawful (d := d + 6) hI g1 g2.1 ht3 (fun q => ?_) (fun q => ?_)
      · simp only [rr, sh, Nat.reduceLT, Nat.reduceMul, Int.reduceToNat, Int.reduceGT, Int.reduceGE, Int.reduceNe, true_and, and_true, true_or, or_true, false_or, or_false, and_self, or_self, if_true, if_false, reduceIte, not_true_eq_false, not_false_eq_true, Int.reduceEq, Int.reduceNe, Int.reduceLT, Int.reduceLE, Int.reduceAdd, Int.reduceSub, Int.reduceMul, Int.reduceNeg, Nat.reduceAdd, Nat.reduceLeDiff, Nat.reduceEqDiff, ne_eq, List.length_cons, List.length_nil, Nat.reduceSub, e40 g1, wmt]
        have hdd : d + 7 = (d + 4 - m) + t + (m - t) + 3 := by clear ih ihu nx b3 g3 hQ km et kt wmt; omega
        refine CC_d hdd (c_bySwaps hI ht3 hDD (m - t) (d := d + 4 - m) (by clear ih ihu nx b3 g3 hQ km et kt wmt hdd; omega) (by decide) (frS_ok hI.m) g1 g2 (fun q2 H3 k1 k2 => ?_) (fun q2 H3 k1 k2 => ?_))
        · simp only [rr, sh, Nat.reduceLT, Nat.reduceMul, Int.reduceToNat, Int.reduceGT, Int.reduceGE, Int.reduceNe, true_and, and_true, true_or, or_true, false_or, or_false, and_self, or_self, if_true, if_false, reduceIte, not_true_eq_false, not_false_eq_true, Int.reduceEq, Int.reduceNe, Int.reduceLT, Int.reduceLE, Int.reduceAdd, Int.reduceSub, Int.reduceMul, Int.reduceNeg, Nat.reduceAdd, Nat.reduceLeDiff, Nat.reduceEqDiff, ne_eq, List.length_cons, List.length_nil, Nat.reduceSub]
          refine hQ H3 m k1 (Or.inr ⟨m, hm, rfl, ?_, b3⟩)
          obtain ⟨g, r1, E, r2, r3⟩ := q2
          exact ⟨t, htm, q, g, E, r1, r2, r3⟩
        · simp only [e_CH_fewest_3, k_CH_fewest_3, rr, sh, Nat.reduceLT, Nat.reduceMul, Int.reduceToNat, Int.reduceGT, Int.reduceGE, Int.reduceNe, true_and, and_true, true_or, or_true, false_or, or_false, and_self, or_self, if_true, if_false, reduceIte, not_true_eq_false, not_false_eq_true, Int.reduceEq, Int.reduceNe, Int.reduceLT, Int.reduceLE, Int.reduceAdd, Int.reduceSub, Int.reduceMul, Int.reduceNeg, Nat.reduceAdd, Nat.reduceLeDiff, Nat.reduceEqDiff, ne_eq, List.length_cons, List.length_nil, Nat.reduceSub, kt]
          exact nx H3 k1 k2 (fun z => q2 z.2)
      · simp only [e_CH_fewest_3, k_CH_fewest_3, rr, sh, Nat.reduceLT, Nat.reduceMul, Int.reduceToNat, Int.reduceGT, Int.reduceGE, Int.reduceNe, true_and, and_true, true_or, or_true, false_or, or_false, and_self, or_self, if_true, if_false, reduceIte, not_true_eq_false, not_false_eq_true, Int.reduceEq, Int.reduceNe, Int.reduceLT, Int.reduceLE, Int.reduceAdd, Int.reduceSub, Int.reduceMul, Int.reduceNeg, Nat.reduceAdd, Nat.reduceLeDiff, Nat.reduceEqDiff, ne_eq, List.length_cons, List.length_nil, Nat.reduceSub, kt]
        exact nx H2 g1 g2 (fun z => q z.1)
end CF
theorem p_changes {d : Nat} {V : Hp} (h : Inv0 V) : Pair V (d + 10) EO_changes MO_changes [va 1] [va 71] := by
  refine c_changesC (d := d + 1) h.q fun H1 r1 e1 q1 => ?_
  refine c_changesM (d := d + 2) h.m e1 fun H2 r2 e2 q2 => ⟨?_, h.vw e2⟩
  rw [q2.uniq q1 (fun m => chg_1 m) (fun m => chg_2 h.m.boat.s.2 m)]
