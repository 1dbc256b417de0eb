/-! row: the loops of both sides -/
theorem s345_rw (a b : Int) (h : s345 a b = true) : rwS a b = true := by
  unfold s345 at h
  by_cases h1 : a = 4
  · subst h1
    simp at h
    rcases h with (rfl | rfl) | rfl <;> rfl
  · simp [h1] at h
theorem s345_cl (a b : Int) (h : s345 a b = true) : clS a b = true := by
  unfold s345 at h
  by_cases h1 : a = 4
  · subst h1; simpa [clS] using h
  · simp [h1] at h
theorem s478_rw (a b : Int) (h : s478 a b = true) : rwS a b = true := by
  unfold s478 at h
  by_cases h1 : a = 71
  · subst h1
    simp at h
    rcases h with (rfl | rfl) | rfl <;> rfl
  · simp [h1] at h
theorem s478_fi (a b : Int) (h : s478 a b = true) : fiS a b = true := by
  unfold s478 at h
  by_cases h1 : a = 71
  · subst h1
    simp at h
    rcases h with (rfl | rfl) | rfl <;> rfl
  · simp [h1] at h
theorem sKP_rw (a b : Int) (h : sKP a b = true) : rwS a b = true := by
  unfold sKP at h
  by_cases h1 : a = 108
  · subst h1; rfl
  · by_cases h2 : a = 109
    · subst h2; rfl
    · by_cases h3 : a = 110
      · subst h3; rfl
      · by_cases h4 : a = 111
        · subst h4; rfl
        · by_cases h5 : a = 71
          · subst h5
            simp at h
            rcases h with rfl | rfl <;> rfl
          · simp [h1, h2, h3, h4, h5] at h
theorem nt_rw {V : Hp} {k a b : Int} : Fx rwS V (ntH V k a b) := ((((((Fx.rf.hs (c := 20) rfl).hs (c := 21) rfl).hs (c := 22) rfl).hs (c := 23) rfl).hs (c := 4) (j := 10) rfl).hs (c := 4) (j := 11) rfl)
section RL
variable {d : Nat} {V X : Hp} {Q : AV → Hp → Prop}
theorem rpl_rng (hM : Inm V) {k : Nat} {t s : Int} (hk : k < nS V) (h : V 107 k ≠ -1) (ht : 0 ≤ t) (hs' : 0 ≤ s) : 0 ≤ max 0 (stg V (V 107 k) t + d3 s - 1) ∧ max 0 (stg V (V 107 k) t + d3 s - 1) ≤ 101 ∧ -1 ≤ stg V (V 107 k) t + d3 s - 1 ∧ stg V (V 107 k) t + d3 s - 1 ≤ 101 := by
  have hn := hM.boat.s
  have hs := hM.crew.sits k (by omega)
  have h1 := stg_rng hM (r := V 107 k) (t := t) (by omega) ht
  have h2 := d3_rng hs'
  omega
set_option maxRecDepth 20000 in
theorem c_drawnSwing (hI : Inq V) (hX : Fx rwS V X) {t s : Int} (h3 : X 4 3 = t) (ht : 0 ≤ t) (ht2 : t ≤ 100000) (h5 : X 4 5 = s) (hs' : 0 ≤ s ∧ s < 2147483648) (hQ : ∀ H', Fx s345 X H' → H' 4 3 = t → H' 4 4 = X 4 4 → H' 4 5 = rsd V s (nS V) → Q (vl (w64 (rsm V t s (nS V)))) H') : CC (d + 3) CW_drawnSwing [va 4] X Q := by
  have h1 := hI.plan.seats
  have hn := hI.boat.s
  simp only [en_CW_drawnSwing, e_CW_drawnSwing_0, k_CW_drawnSwing_0, rr, sh, Nat.reduceLT, Nat.reduceMul, Int.reduceToNat, Int.reduceGT, Int.reduceGE, Int.reduceNe, true_and, and_true, true_or, or_true, false_or, or_false, and_self, or_self, if_true, if_false, reduceIte, not_true_eq_false, not_false_eq_true, Int.reduceEq, Int.reduceNe, Int.reduceLT, Int.reduceLE, Int.reduceAdd, Int.reduceSub, Int.reduceMul, Int.reduceNeg, Nat.reduceAdd, Nat.reduceLeDiff, Nat.reduceEqDiff, ne_eq, List.length_cons, List.length_nil, Nat.reduceSub]
  refine up_nat (P := fun k => ∀ x H', Fx s345 X H' → H' 4 3 = t → H' 4 4 = X 4 4 → H' 4 5 = rsd V s k → R (d + 3) CW_drawnSwing (blk CW_drawnSwing 1) [va 4, vl (w64 (rsm V t s k)), vu, vi k, x] [] H' Q) ?_ ?_ 0 (Nat.zero_le (nS V)) _ X Fx.rf h3 rfl h5
  · intro x H' a1 a2 a3 a4
    have b1 : Fx rwS V H' := hX.tr (a1.up s345_rw)
    obtain ⟨g1, g2, g3, g4, g5, g6, g7, g8, g9, g10, g11, g12, g13, g14, g15, g16, g17, g18⟩ := rw_g hI b1
    rw [e_CW_drawnSwing_1]
    simp only [k_CW_drawnSwing_1, e_CW_drawnSwing_2, k_CW_drawnSwing_2, e_CW_drawnSwing_3, k_CW_drawnSwing_3, rr, sh, Nat.reduceLT, Nat.reduceMul, Int.reduceToNat, Int.reduceGT, Int.reduceGE, Int.reduceNe, true_and, and_true, true_or, or_true, false_or, or_false, and_self, or_self, if_true, if_false, reduceIte, not_true_eq_false, not_false_eq_true, Int.reduceEq, Int.reduceNe, Int.reduceLT, Int.reduceLE, Int.reduceAdd, Int.reduceSub, Int.reduceMul, Int.reduceNeg, Nat.reduceAdd, Nat.reduceLeDiff, Nat.reduceEqDiff, ne_eq, List.length_cons, List.length_nil, Nat.reduceSub, g1, g6, h1, Int.le_refl]
    exact ⟨shp hI, hQ _ a1 a2 a3 a4⟩
  · intro k hk ih x H' a1 a2 a3 a4
    have b1 : Fx rwS V H' := hX.tr (a1.up s345_rw)
    have c1 : ¬ (nS V : Int) ≤ k := by omega
    have j1 : 0 ≤ (k : Int) ∧ (k : Int) < 12 := by omega
    have e1 := hI.cc.sits k (by omega)
    have kw := w32_s (n := k) (by omega)
    obtain ⟨g1, g2, -, g4, -, g6, -⟩ := rw_g hI b1
    rw [e_CW_drawnSwing_1]
    by_cases h : V 107 k = -1
    · simp only [k_CW_drawnSwing_1, e_CW_drawnSwing_2, k_CW_drawnSwing_2, e_CW_drawnSwing_3, k_CW_drawnSwing_3, rr, sh, Nat.reduceLT, Nat.reduceMul, Int.reduceToNat, Int.reduceGT, Int.reduceGE, Int.reduceNe, true_and, and_true, true_or, or_true, false_or, or_false, and_self, or_self, if_true, if_false, reduceIte, not_true_eq_false, not_false_eq_true, Int.reduceEq, Int.reduceNe, Int.reduceLT, Int.reduceLE, Int.reduceAdd, Int.reduceSub, Int.reduceMul, Int.reduceNeg, Nat.reduceAdd, Nat.reduceLeDiff, Nat.reduceEqDiff, ne_eq, List.length_cons, List.length_nil, Nat.reduceSub, g1, g2, g4, g6, h1, c1, j1, e1, h, kw, shp hI]
      have r1 : rsm V t s (k + 1) = rsm V t s k := by show (if V 107 k = -1 then _ else _) = _; rw [if_pos h]
      have r2 : rsd V s (k + 1) = rsd V s k := by show (if V 107 k = -1 then _ else _) = _; rw [if_pos h]
      have := ih x H' a1 a2 a3 (by rw [r2]; exact a4)
      rw [r1] at this
      exact this
    · have hr := rsd_rng hs' (V := V) k
      have hd := drw_rng (rsd V s k)
      have hp := rpl_rng hI.m hk h ht hd.1
      have b2 : Fx s345 X (hs H' 4 5 (drw (rsd V s k))) := a1.hs (c := 4) (j := 5) rfl
      have b3 : Fx rwS V (hs H' 4 5 (drw (rsd V s k))) := b1.hs (c := 4) (j := 5) rfl
      have w1 : w32 (w32 (stg V (V 107 k) t + d3 (drw (rsd V s k))) - 1) = stg V (V 107 k) t + d3 (drw (rsd V s k)) - 1 := by
        rw [w32_id (x := stg V (V 107 k) t + d3 (drw (rsd V s k))) (by omega) (by omega), w32_id (by omega) (by omega)]
      have r1 : rsm V t s (k + 1) = rsm V t s k + sgn ((sdV V).testBit k) (rpl V t (drw (rsd V s k)) k) := by show (if V 107 k = -1 then _ else _) = _; rw [if_neg h]
      have r2 : rsd V s (k + 1) = drw (rsd V s k) := by show (if V 107 k = -1 then _ else _) = _; rw [if_neg h]
      simp only [k_CW_drawnSwing_1, e_CW_drawnSwing_2, k_CW_drawnSwing_2, e_CW_drawnSwing_3, k_CW_drawnSwing_3, rr, sh, Nat.reduceLT, Nat.reduceMul, Int.reduceToNat, Int.reduceGT, Int.reduceGE, Int.reduceNe, true_and, and_true, true_or, or_true, false_or, or_false, and_self, or_self, if_true, if_false, reduceIte, not_true_eq_false, not_false_eq_true, Int.reduceEq, Int.reduceNe, Int.reduceLT, Int.reduceLE, Int.reduceAdd, Int.reduceSub, Int.reduceMul, Int.reduceNeg, Nat.reduceAdd, Nat.reduceLeDiff, Nat.reduceEqDiff, ne_eq, List.length_cons, List.length_nil, Nat.reduceSub, g1, g2, g4, g6, h1, c1, j1, e1, h, kw, shp hI, a2, q_forceX hI b1 hk h ht ht2, q_draw a4 hr, w1, q_maxI, q_leverX hI b3 hk]
      have := ih (vi (max 0 (stg V (V 107 k) t + d3 (drw (rsd V s k)) - 1))) (hs H' 4 5 (drw (rsd V s k))) b2 (by rw [hs_app, if_neg (by decide)]; exact a2) (by rw [hs_app, if_neg (by decide)]; exact a3) (by rw [r2]; exact hs_same)
      rw [r1] at this
      refine R_cg this ?_ rfl
      rw [w64_al, w64_ar]
      have : max 0 (stg V (V 107 k) t + d3 (drw (rsd V s k)) - 1) * sgn ((sdV V).testBit k) (lvr V 1 k) = sgn ((sdV V).testBit k) (rpl V t (drw (rsd V s k)) k) := by
        unfold sgn rpl
        split
        · rfl
        · rw [Int.mul_neg]
      rw [this]
set_option maxRecDepth 20000 in
theorem c_rowOn (hI : Inq V) (hA : ActR V) {n : Nat} (hn : n ≤ 200) (hst : V 71 47 + n ≤ 9999) (hQ : ∀ H', Fx s345 (ntH V 2 n (-1)) H' → H' 4 3 = V 71 47 + n → H' 4 4 = (rwK V n).2 → H' 4 5 = (rwK V n).1 → Q vu H') : CC (d + 4) CW_rowOn [va 4, vi n] V Q := by
  obtain ⟨hm, a1, a2, c, hc, hc30, -⟩ := hA
  have hm2 : 0 ≤ V 4 10 ∧ V 4 10 < 30 := by rw [a1]; exact hm
  have hc2 : 0 ≤ V 4 11 ∧ V 4 11 ≤ 30 := by rw [a2, hc]; omega
  clear hm a1 a2 hc
  have ht := hI.crew.stroke
  simp only [en_CW_rowOn, e_CW_rowOn_0, k_CW_rowOn_0, rr, sh, Nat.reduceLT, Nat.reduceMul, Int.reduceToNat, Int.reduceGT, Int.reduceGE, Int.reduceNe, true_and, and_true, true_or, or_true, false_or, or_false, and_self, or_self, if_true, if_false, reduceIte, not_true_eq_false, not_false_eq_true, Int.reduceEq, Int.reduceNe, Int.reduceLT, Int.reduceLE, Int.reduceAdd, Int.reduceSub, Int.reduceMul, Int.reduceNeg, Nat.reduceAdd, Nat.reduceLeDiff, Nat.reduceEqDiff, ne_eq, List.length_cons, List.length_nil, Nat.reduceSub, q_noteAct hI.ptr Vw.rf hm2 hc2]
  refine up_nat (P := fun k => ∀ H', Fx s345 (ntH V 2 n (-1)) H' → H' 4 3 = V 71 47 + k → H' 4 4 = (rwK V k).2 → H' 4 5 = (rwK V k).1 → R (d + 4) CW_rowOn (blk CW_rowOn 1) [va 4, vi n, vi k] [] H' Q) ?_ ?_ 0 (Nat.zero_le n) _ Fx.rf ?_ ?_ ?_
  · intro H' b1 b2 b3 b4
    rw [e_CW_rowOn_1]
    simp only [k_CW_rowOn_1, e_CW_rowOn_2, k_CW_rowOn_2, rr, sh, Nat.reduceLT, Nat.reduceMul, Int.reduceToNat, Int.reduceGT, Int.reduceGE, Int.reduceNe, true_and, and_true, true_or, or_true, false_or, or_false, and_self, or_self, if_true, if_false, reduceIte, not_true_eq_false, not_false_eq_true, Int.reduceEq, Int.reduceNe, Int.reduceLT, Int.reduceLE, Int.reduceAdd, Int.reduceSub, Int.reduceMul, Int.reduceNeg, Nat.reduceAdd, Nat.reduceLeDiff, Nat.reduceEqDiff, ne_eq, List.length_cons, List.length_nil, Nat.reduceSub, Int.le_refl]
    exact hQ _ b1 b2 b3 b4
  · intro k hk ih
    have c1 : ¬ (n : Int) ≤ k := by clear ih hQ; omega
    have kw := w32_s (n := k) (by clear ih hQ; omega)
    have i1 : 0 ≤ V 71 47 + k + 1 ∧ V 71 47 + k + 1 ≤ 100000 := by clear ih hQ kw; omega
    have w1 : w32 (V 71 47 + k + 1) = V 71 47 + k + 1 := w32_id (by clear ih hQ kw; omega) (by clear ih hQ kw; omega)
    have i2 : V 71 47 + k + 1 = V 71 47 + ((k + 1 : Nat) : Int) := by clear ih hQ kw w1; omega
    intro H' b1 b2 b3 b4
    have e44 : ∀ v : Int, hs H' 4 3 v 4 4 = (rwK V k).2 := fun v => by rw [hs_app, if_neg (by decide)]; exact b3
    have e45 : ∀ v : Int, hs H' 4 3 v 4 5 = (rwK V k).1 := fun v => by rw [hs_app, if_neg (by decide)]; exact b4
    have hX : Fx rwS V (hs H' 4 3 (V 71 47 + k + 1)) := (nt_rw.tr (b1.up s345_rw)).hs (c := 4) (j := 3) rfl
    rw [e_CW_rowOn_1]
    simp only [k_CW_rowOn_1, rr, sh, Nat.reduceLT, Nat.reduceMul, Int.reduceToNat, Int.reduceGT, Int.reduceGE, Int.reduceNe, true_and, and_true, true_or, or_true, false_or, or_false, and_self, or_self, if_true, if_false, reduceIte, not_true_eq_false, not_false_eq_true, Int.reduceEq, Int.reduceNe, Int.reduceLT, Int.reduceLE, Int.reduceAdd, Int.reduceSub, Int.reduceMul, Int.reduceNeg, Nat.reduceAdd, Nat.reduceLeDiff, Nat.reduceEqDiff, ne_eq, List.length_cons, List.length_nil, Nat.reduceSub, c1, b2, w1, e44]
    refine c_drawnSwing hI hX hs_same i1.1 i1.2 (e45 _) (rwK_rng hI.crew k).1 fun H2 f1 f2 f3 f4 => ?_
    simp only [rr, sh, Nat.reduceLT, Nat.reduceMul, Int.reduceToNat, Int.reduceGT, Int.reduceGE, Int.reduceNe, true_and, and_true, true_or, or_true, false_or, or_false, and_self, or_self, if_true, if_false, reduceIte, not_true_eq_false, not_false_eq_true, Int.reduceEq, Int.reduceNe, Int.reduceLT, Int.reduceLE, Int.reduceAdd, Int.reduceSub, Int.reduceMul, Int.reduceNeg, Nat.reduceAdd, Nat.reduceLeDiff, Nat.reduceEqDiff, ne_eq, List.length_cons, List.length_nil, Nat.reduceSub, kw]
    refine ih _ ((((b1.hs (c := 4) (j := 3) rfl).tr f1)).hs (c := 4) (j := 4) rfl) ?_ ?_ ?_
    · rw [hs_app, if_neg (by decide), f2]; exact i2
    · rw [hs_same, w64_ar]; rfl
    · rw [hs_app, if_neg (by decide), f4]; rfl
  · rw [nt_4 (by decide), hI.cc.stroke]; exact (Int.add_zero _).symm
  · rw [nt_4 (by decide), hI.cc.heading]; rfl
  · rw [nt_4 (by decide), hI.cc.drawn]; rfl
end RL
