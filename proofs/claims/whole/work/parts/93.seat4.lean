/-! seated: the reference's loop; the pair -/
def s107 (a b : Int) : Bool := if a = 107 then true else false
section SS
variable {V : Hp}
theorem Wv.c {H : Hp} (h : Wv V H) {a : Int} (ha : a ≠ 107) (hs' : ∀ b, scr a b = false) : H a = V a := funext fun b => h a b (hs' b) (fun z => ha z.1)
theorem Wv.hs {H : Hp} (h : Wv V H) {c j v : Int} (hc : scr c j = true ∨ (c = 107 ∧ 0 ≤ j ∧ j < nS V)) : Wv V (hs H c j v) := fun a b q1 q2 => by
  rw [hs2 (fun z => ?_)]
  · exact h a b q1 q2
  · rcases hc with hc | hc
    · rw [z.1, z.2, hc] at q1; cases q1
    · exact q2 ⟨z.1.trans hc.1, by rw [z.2]; exact hc.2.1, by rw [z.2]; exact hc.2.2⟩
theorem pow_le5 {n i : Nat} (hn : n ≤ 5) (hi : i ≤ 5) : n ^ i ≤ 3125 := Nat.le_trans (Nat.pow_le_pow_left hn i) (Nat.pow_le_pow_right (n := 5) (j := 5) (by decide) hi)
theorem setF_lt {n m : Nat} (hn : n ≤ 5) : ∀ j, setF n m j < 32 ∨ n = 0 := by
  intro j
  rcases Nat.eq_zero_or_pos n with z | z
  · exact Or.inr z
  · left
    induction j with
    | zero => show 0 < 32; decide
    | succ j ih =>
      have hd : m / n ^ j % n < n := Nat.mod_lt _ z
      refine Nat.or_lt_two_pow (n := 5) ih ?_
      rw [Nat.one_mul]
      exact Nat.pow_lt_pow_right (by decide) (Nat.lt_of_lt_of_le hd hn)
set_option maxRecDepth 20000 in
theorem c_sitBy (hM : Inm V) (hnr : nS V = nR V) (hn5 : nS V ≤ 5) {d m : Nat} {H : Hp} {Q : AV → Hp → Prop} (hm : m < nS V ^ nS V) (hW : Wv V H) (h1 : dupf (nS V) (nS V) m → ∀ H', Vw (stV V m) H' → Fx s107 H H' → Q (vi 1) H') (h0 : ¬ dupf (nS V) (nS V) m → ∀ H', Vw (stV V m) H' → Fx s107 H H' → Q (vi 0) H') : CC (d + 1) MO_sitBy [va 71, vi m] H Q := by
  have hR := hM.boat.r
  have hS12 := hM.boat.s.2
  have hm3 : m < 3125 := Nat.lt_of_lt_of_le hm (pow_le5 hn5 hn5)
  have f : ∀ {H}, Wv V H → H 71 29 = 91 ∧ H 91 = V 91 ∧ H 71 50 = 107 := fun {H} h => ⟨(h 71 29 rfl (fun z => absurd z.1 (by decide))).trans (hM.ptr (71, 29, 91) (by decide +kernel)), h.c (by decide) (fun _ => rfl), (h 71 50 rfl (fun z => absurd z.1 (by decide))).trans (hM.ptr (71, 50, 107) (by decide +kernel))⟩
  have hR1 : V 91 5 = nS V := by rw [hR.1, hnr]
  have wn : w32 ((nS V : Int) - 1) = (nS V : Int) - 1 := w32_id (by clear h1 h0 hm hR1; omega) (by clear h1 h0 hm hR1; omega)
  have hset := set_perm hn5 hm
  simp only [en_MO_sitBy, e_MO_sitBy_0, k_MO_sitBy_0, en_MO_rowers, e_MO_rowers_0, k_MO_rowers_0, rr, sh, Nat.reduceLT, Nat.reduceMul, Int.reduceToNat, Int.reduceGT, Int.reduceGE, Int.reduceNe, true_and, and_true, true_or, or_true, false_or, or_false, and_self, or_self, if_true, if_false, reduceIte, not_true_eq_false, not_false_eq_true, Int.reduceEq, Int.reduceNe, Int.reduceLT, Int.reduceLE, Int.reduceAdd, Int.reduceSub, Int.reduceMul, Int.reduceNeg, Nat.reduceAdd, Nat.reduceLeDiff, Nat.reduceEqDiff, ne_eq, List.length_cons, List.length_nil, Nat.reduceSub, (f hW).1, (f hW).2.1, hR1, wn]
  have start := up_nat (P := fun j => ∀ H', Wv V H' → Fx s107 H H' → (∀ i : Nat, i < j → H' 107 ((nS V - 1 - i : Nat) : Int) = dgt (nS V) (nS V) m (nS V - 1 - i)) → R (d + 1) MO_sitBy (blk MO_sitBy 1) [va 71, vi m, vi ((m / nS V ^ j : Nat) : Int), vi (setF (nS V) m j), vi ((nS V : Int) - 1 - j)] [] H' Q) (n := nS V) ?_ ?_ 0 (Nat.zero_le _) H hW Fx.rf (fun i hi => absurd hi (Nat.not_lt_zero i))
  · rw [Nat.pow_zero, Nat.div_one, show (nS V : Int) - 1 - ((0 : Nat) : Int) = (nS V : Int) - 1 by omega] at start
    exact start
  · intro H' b1 b2 b3
    have c1 : (nS V : Int) - 1 - (nS V : Int) < 0 := by clear hset h1 h0 wn hm; omega
    have e0 := one_shl hS12
    have h32 : 2 ^ nS V ≤ 32 := Nat.pow_le_pow_right (n := 2) (j := 5) (by decide) hn5
    have hp1 := Nat.two_pow_pos (nS V)
    have wp : w32 (((2 ^ nS V : Nat) : Int) - 1) = ((2 ^ nS V - 1 : Nat) : Int) := by
      clear hset e0
      generalize 2 ^ nS V = y at h32 hp1 ⊢
      rw [w32_id (by clear h1 h0 wn c1 hm; omega) (by clear h1 h0 wn c1 hm; omega)]
      clear h1 h0 wn c1 hm; omega
    have hV : Vw (stV V m) H' := by
      intro a b hs'
      by_cases q : a = 107 ∧ 0 ≤ b ∧ b < nS V
      · obtain ⟨rfl, q1, q2⟩ := q
        obtain ⟨k, rfl⟩ := Int.eq_ofNat_of_zero_le q1
        have hk : k < nS V := Int.ofNat_lt.mp q2
        rw [stV_at hk]
        have := b3 (nS V - 1 - k) (by clear hset h1 h0 wn c1 hm wp e0 h32; omega)
        rw [show nS V - 1 - (nS V - 1 - k) = k by clear hset h1 h0 wn c1 hm wp e0 h32 this; omega] at this
        exact this
      · rw [b1 a b hs' q]
        exact (if_neg q).symm
    rw [e_MO_sitBy_1]
    by_cases hp : setF (nS V) m (nS V) = 2 ^ nS V - 1
    · have hp' : ((setF (nS V) m (nS V) : Nat) : Int) = ((2 ^ nS V - 1 : Nat) : Int) := by rw [hp]
      simp only [k_MO_sitBy_1, e_MO_sitBy_2, k_MO_sitBy_2, e_MO_sitBy_3, k_MO_sitBy_3, e_MO_sitBy_4, k_MO_sitBy_4, en_MO_rowers, e_MO_rowers_0, k_MO_rowers_0, rr, sh, Nat.reduceLT, Nat.reduceMul, Int.reduceToNat, Int.reduceGT, Int.reduceGE, Int.reduceNe, true_and, and_true, true_or, or_true, false_or, or_false, and_self, or_self, if_true, if_false, reduceIte, not_true_eq_false, not_false_eq_true, Int.reduceEq, Int.reduceNe, Int.reduceLT, Int.reduceLE, Int.reduceAdd, Int.reduceSub, Int.reduceMul, Int.reduceNeg, Nat.reduceAdd, Nat.reduceLeDiff, Nat.reduceEqDiff, ne_eq, List.length_cons, List.length_nil, Nat.reduceSub, c1, (f b1).1, (f b1).2.1, hR1, e0, wp, hp']
      exact h1 (hset.mp hp) H' hV b2
    · have hp' : ¬ ((setF (nS V) m (nS V) : Nat) : Int) = ((2 ^ nS V - 1 : Nat) : Int) := fun z => hp (Int.ofNat_inj.mp z)
      simp only [k_MO_sitBy_1, e_MO_sitBy_2, k_MO_sitBy_2, e_MO_sitBy_3, k_MO_sitBy_3, e_MO_sitBy_4, k_MO_sitBy_4, en_MO_rowers, e_MO_rowers_0, k_MO_rowers_0, rr, sh, Nat.reduceLT, Nat.reduceMul, Int.reduceToNat, Int.reduceGT, Int.reduceGE, Int.reduceNe, true_and, and_true, true_or, or_true, false_or, or_false, and_self, or_self, if_true, if_false, reduceIte, not_true_eq_false, not_false_eq_true, Int.reduceEq, Int.reduceNe, Int.reduceLT, Int.reduceLE, Int.reduceAdd, Int.reduceSub, Int.reduceMul, Int.reduceNeg, Nat.reduceAdd, Nat.reduceLeDiff, Nat.reduceEqDiff, ne_eq, List.length_cons, List.length_nil, Nat.reduceSub, c1, (f b1).1, (f b1).2.1, hR1, e0, wp, hp']
      exact h0 (fun z => hp (hset.mpr z)) H' hV b2
  · intro j hj ih H' b1 b2 b3
    have n0 : 0 < nS V := Nat.lt_of_le_of_lt (Nat.zero_le j) hj
    have c1 : ¬ (nS V : Int) - 1 - j < 0 := by clear ih hset b3 h1 h0 wn hm; omega
    have ek : (nS V : Int) - 1 - j = ((nS V - 1 - j : Nat) : Int) := by clear ih hset b3 h1 h0 wn hm; omega
    have kn : nS V - 1 - j < nS V := by clear ih hset b3 h1 h0 wn hm; omega
    have jk : 0 ≤ ((nS V - 1 - j : Nat) : Int) ∧ ((nS V - 1 - j : Nat) : Int) < 12 := ⟨Int.natCast_nonneg _, Int.ofNat_lt.mpr (Nat.lt_of_lt_of_le kn hS12)⟩
    have kw : w32 (((nS V - 1 - j : Nat) : Int) + -1) = (nS V : Int) - 1 - ((j + 1 : Nat) : Int) := by
      rw [w32_id (by clear ih hset b3 h1 h0 wn hm; omega) (by clear ih hset b3 h1 h0 wn hm; omega)]; clear ih hset b3 h1 h0 wn hm; omega
    have nne : ¬ (nS V : Int) = 0 := fun z => Nat.ne_of_gt n0 (Int.ofNat_inj.mp z)
    have hd : m / nS V ^ j % nS V < nS V := Nat.mod_lt _ n0
    have hv3 : m / nS V ^ j < 3125 := Nat.lt_of_le_of_lt (Nat.div_le_self _ _) hm3
    have wr : w32 (((m / nS V ^ j : Nat) : Int).tmod (nS V)) = ((m / nS V ^ j % nS V : Nat) : Int) := by
      rw [Int.tmod_eq_emod_of_nonneg (Int.natCast_nonneg _), ← Int.natCast_emod]
      exact w32_nat (Nat.lt_trans (Nat.lt_of_lt_of_le hd hn5) (by decide))
    have wd : w32 (((m / nS V ^ j : Nat) : Int).tdiv (nS V)) = ((m / nS V ^ (j + 1) : Nat) : Int) := by
      rw [Int.tdiv_eq_ediv_of_nonneg (Int.natCast_nonneg _), ← Int.natCast_ediv, Nat.div_div_eq_div_mul, ← Nat.pow_succ]
      exact w32_nat (Nat.lt_trans (Nat.lt_of_le_of_lt (Nat.div_le_self _ _) hm3) (by decide))
    have hdg : m / nS V ^ j % nS V = dgt (nS V) (nS V) m (nS V - 1 - j) := by
      unfold dgt
      rw [show nS V - 1 - (nS V - 1 - j) = j by clear ih hset b3 h1 h0 wn hm wr wd; omega]
    have hT : setF (nS V) m j < 32 := (setF_lt hn5 j).resolve_right (fun z => Nat.ne_of_gt n0 z)
    have hp : (1 : Nat) * 2 ^ (m / nS V ^ j % nS V) < 32 := by
      rw [Nat.one_mul]
      exact Nat.pow_lt_pow_right (n := 5) (by decide) (Nat.lt_of_lt_of_le hd hn5)
    have w3 : b_shl 1 ((m / nS V ^ j % nS V : Nat) : Int) = ((1 * 2 ^ (m / nS V ^ j % nS V) : Nat) : Int) := b_shl_nat (a := 1) (Nat.lt_trans (Nat.lt_of_lt_of_le hd hn5) (by decide)) (Nat.lt_trans hp (by decide))
    have w4 : b_or (setF (nS V) m j : Int) ((1 * 2 ^ (m / nS V ^ j % nS V) : Nat) : Int) = (setF (nS V) m (j + 1) : Int) := b_or_nat (Nat.lt_trans hT (by decide)) (Nat.lt_trans hp (by decide))
    have hX : ∀ v, Wv V (hs H' 107 ((nS V - 1 - j : Nat) : Int) v) := fun v => b1.hs (Or.inr ⟨rfl, Int.natCast_nonneg _, Int.ofNat_lt.mpr kn⟩)
    rw [ek] at c1
    rw [e_MO_sitBy_1, ek]
    simp only [k_MO_sitBy_1, en_MO_rowers, e_MO_rowers_0, k_MO_rowers_0, rr, sh, Nat.reduceLT, Nat.reduceMul, Int.reduceToNat, Int.reduceGT, Int.reduceGE, Int.reduceNe, true_and, and_true, true_or, or_true, false_or, or_false, and_self, or_self, if_true, if_false, reduceIte, not_true_eq_false, not_false_eq_true, Int.reduceEq, Int.reduceNe, Int.reduceLT, Int.reduceLE, Int.reduceAdd, Int.reduceSub, Int.reduceMul, Int.reduceNeg, Nat.reduceAdd, Nat.reduceLeDiff, Nat.reduceEqDiff, ne_eq, List.length_cons, List.length_nil, Nat.reduceSub, c1, (f b1).1, (f b1).2.1, (f b1).2.2, (f (hX _)).1, (f (hX _)).2.1, (f (hX _)).2.2, hR1, nne, wr, wd, jk, hs_same, w3, w4, kw]
    refine ih _ (hX _) (b2.hs (c := 107) rfl) fun i hi => ?_
    rw [hs_at]
    by_cases e : i = j
    · subst e; rw [if_pos rfl, hdg]
    · have ei : ¬ ((nS V - 1 - i : Nat) : Int) = ((nS V - 1 - j : Nat) : Int) := by clear ih hset b3 h1 h0 wn hm wr wd w3 w4 hdg; omega
      rw [if_neg ei]
      exact b3 i (Nat.lt_of_le_of_ne (Nat.le_of_lt_succ hi) e)
end SS
