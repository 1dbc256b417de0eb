/-! the stillest race -/
def stillO (V : Hp) (n : Nat) : Option (Nat × Int) := nbF (lawB V) (grS V n) (2 ^ nS V)
def stillS (V : Hp) (n w : Int) : Int := if (1 ≤ n ∧ n ≤ 300) ∧ 0 ≤ w ∧ w ≤ 1 then (match stillO V n.toNat with
  | none => -1
  | some q => if w = 0 then q.2 else q.1) else -1
def sRA (a b : Int) : Bool := if a = 55 then true else if a = 54 then (decide (b = 3) || decide (b = 4)) else sLN a b
theorem sRA_scr (a b : Int) (h : sRA a b = true) : scr a b = true := by
  unfold sRA at h
  by_cases h1 : a = 55
  · subst h1; rfl
  · by_cases h2 : a = 54
    · subst h2
      simp at h
      rcases h with rfl | rfl <;> rfl
    · rw [if_neg h1, if_neg h2] at h
      exact sLN_scr a b h
theorem sLN_RA (a b : Int) (h : sLN a b = true) : sRA a b = true := by
  unfold sRA
  by_cases h1 : a = 55
  · rw [if_pos h1]
  · by_cases h2 : a = 54
    · subst h2; cases h
    · rw [if_neg h1, if_neg h2]; exact h
def rgW (V : Hp) (i k : Nat) : Int := frc V k ((ftn V + i) * 10) * lvr V 1 k
section ST
variable {d : Nat} {V H : Hp} {Q : AV → Hp → Prop}
set_option maxRecDepth 20000 in
theorem c_setLanesR (hI : Inq V) (hH : Vw V H) {n : Nat} (hn1 : 1 ≤ n) (hn2 : n ≤ 300) (hQ : ∀ H', Fx sRA H H' → LaneS H' (nS V) (ntn V n) (rgW V) (fun _ => 0) 0 → Q vu H') : CC (d + 3) RA_setLanes [va 54, va 4, va 42, vi n] H Q := by
  have hn := hI.boat.s
  have h1 := hI.plan.seats
  have ht := hI.crew.stroke
  have hf : 0 ≤ ftn V ∧ ftn V ≤ 1000 := by unfold ftn; omega
  have hl : ftn V + ntn V n = (V 71 47 + n) / 10 + 1 := by unfold ftn ntn; omega
  have hl2 : ntn V n ≤ 31 := by unfold ntn; omega
  have f := hH.f hI.ptr; have g := pl_f hH hI.pp hI.ptr; simp only [en_RA_setLanes, e_RA_setLanes_0, k_RA_setLanes_0, rr, sh, Nat.reduceLT, Nat.reduceMul, Int.reduceToNat, Int.reduceGT, Int.reduceGE, Int.reduceNe, true_and, and_true, true_or, or_true, false_or, or_false, and_self, or_self, if_true, if_false, reduceIte, not_true_eq_false, not_false_eq_true, Int.reduceEq, Int.reduceNe, Int.reduceLT, Int.reduceLE, Int.reduceAdd, Int.reduceSub, Int.reduceMul, Int.reduceNeg, Nat.reduceAdd, Nat.reduceLeDiff, Nat.reduceEqDiff, ne_eq, List.length_cons, List.length_nil, Nat.reduceSub, ite10_0, ite10_1, ite10_01, Classical.not_not, f, g] <;> clear f g
  repeat (refine And.intro (by omega) ?_)
  refine c_clear hI.ptr hH (n := nS V) (g := rgW V) (e := fun _ => 0) fun H1 b1 b2 => ?_
  have hV0 := hH
  have hH := hV0.fx b1 sLN_scr
  have f := hH.f hI.ptr; have g := pl_f hH hI.pp hI.ptr; simp only [en_RA_setLanes, e_RA_setLanes_0, k_RA_setLanes_0, rr, sh, Nat.reduceLT, Nat.reduceMul, Int.reduceToNat, Int.reduceGT, Int.reduceGE, Int.reduceNe, true_and, and_true, true_or, or_true, false_or, or_false, and_self, or_self, if_true, if_false, reduceIte, not_true_eq_false, not_false_eq_true, Int.reduceEq, Int.reduceNe, Int.reduceLT, Int.reduceLE, Int.reduceAdd, Int.reduceSub, Int.reduceMul, Int.reduceNeg, Nat.reduceAdd, Nat.reduceLeDiff, Nat.reduceEqDiff, ne_eq, List.length_cons, List.length_nil, Nat.reduceSub, ite10_0, ite10_1, ite10_01, Classical.not_not, f, g, q_firstTen hI hH] <;> clear f g
  repeat (refine And.intro (by omega) ?_)
  refine R_cg (up_nat (P := fun p => ∀ H' z, Fx sRA H H' → LaneS H' (nS V) p (rgW V) (fun _ => 0) 0 → R (d + 3) RA_setLanes (blk RA_setLanes 1) [va 54, va 4, va 42, vi n, vi (ftn V + p), z] [] H' Q) ?_ ?_ 0 (Nat.zero_le (ntn V n)) H1 vu (b1.up sLN_RA) b2) (by rw [show ftn V + ((0 : Nat) : Int) = ftn V by omega]) rfl
  · intro H' z a1 a2
    have hH := hV0.fx a1 sRA_scr
    have c1 : (V 71 47 + n) / 10 < ftn V + (ntn V n : Int) := by omega
    rw [e_RA_setLanes_1]
    have f := hH.f hI.ptr; have g := pl_f hH hI.pp hI.ptr; simp only [k_RA_setLanes_1, e_RA_setLanes_4, k_RA_setLanes_4, rr, sh, Nat.reduceLT, Nat.reduceMul, Int.reduceToNat, Int.reduceGT, Int.reduceGE, Int.reduceNe, true_and, and_true, true_or, or_true, false_or, or_false, and_self, or_self, if_true, if_false, reduceIte, not_true_eq_false, not_false_eq_true, Int.reduceEq, Int.reduceNe, Int.reduceLT, Int.reduceLE, Int.reduceAdd, Int.reduceSub, Int.reduceMul, Int.reduceNeg, Nat.reduceAdd, Nat.reduceLeDiff, Nat.reduceEqDiff, ne_eq, List.length_cons, List.length_nil, Nat.reduceSub, ite10_0, ite10_1, ite10_01, Classical.not_not, f, g, q_lastTen hI hH hn2, c1] <;> clear f g
    exact hQ H' a1 a2
  · intro p hp ih H' z a1 a2
    have hH := hV0.fx a1 sRA_scr
    have c1 : ¬ (V 71 47 + n) / 10 < ftn V + (p : Int) := by omega
    have w1 : w32 (ftn V + p + 1) = ftn V + ((p + 1 : Nat) : Int) := by rw [w32_id (by omega) (by omega)]; omega
    have w2 : w32 ((ftn V + p) * 10) = (ftn V + p) * 10 := w32_id (by omega) (by omega)
    have i1 : 0 ≤ (ftn V + p) * 10 := by omega
    have i2 : (ftn V + p) * 10 ≤ 100000 := by omega
    rw [e_RA_setLanes_1]
    have f := hH.f hI.ptr; have g := pl_f hH hI.pp hI.ptr; simp only [k_RA_setLanes_1, rr, sh, Nat.reduceLT, Nat.reduceMul, Int.reduceToNat, Int.reduceGT, Int.reduceGE, Int.reduceNe, true_and, and_true, true_or, or_true, false_or, or_false, and_self, or_self, if_true, if_false, reduceIte, not_true_eq_false, not_false_eq_true, Int.reduceEq, Int.reduceNe, Int.reduceLT, Int.reduceLE, Int.reduceAdd, Int.reduceSub, Int.reduceMul, Int.reduceNeg, Nat.reduceAdd, Nat.reduceLeDiff, Nat.reduceEqDiff, ne_eq, List.length_cons, List.length_nil, Nat.reduceSub, ite10_0, ite10_1, ite10_01, Classical.not_not, f, g, q_lastTen hI hH hn2, c1] <;> clear f g
    repeat (refine And.intro (by omega) ?_)
    refine up_nat (P := fun k => ∀ H2, Fx sRA H H2 → LaneS H2 (nS V) p (rgW V) (fun _ => 0) 0 → (∀ j : Nat, j < k → H2 55 j = w64 (rgW V p j)) → R (d + 3) RA_setLanes (blk RA_setLanes 2) [va 54, va 4, va 42, vi n, vi (ftn V + p), vi k] [] H2 Q) ?_ ?_ 0 (Nat.zero_le (nS V)) H' a1 a2 (fun j hj => absurd hj (Nat.not_lt_zero j))
    · intro H2 g1 g2 g3
      have hH := hV0.fx g1 sRA_scr
      have k1 := w1
      rw [e_RA_setLanes_2]
      have f := hH.f hI.ptr; have g := pl_f hH hI.pp hI.ptr; simp only [k_RA_setLanes_2, e_RA_setLanes_3, k_RA_setLanes_3, rr, sh, Nat.reduceLT, Nat.reduceMul, Int.reduceToNat, Int.reduceGT, Int.reduceGE, Int.reduceNe, true_and, and_true, true_or, or_true, false_or, or_false, and_self, or_self, if_true, if_false, reduceIte, not_true_eq_false, not_false_eq_true, Int.reduceEq, Int.reduceNe, Int.reduceLT, Int.reduceLE, Int.reduceAdd, Int.reduceSub, Int.reduceMul, Int.reduceNeg, Nat.reduceAdd, Nat.reduceLeDiff, Nat.reduceEqDiff, ne_eq, List.length_cons, List.length_nil, Nat.reduceSub, ite10_0, ite10_1, ite10_01, Classical.not_not, f, g, h1, Int.le_refl, w1] <;> clear f g w1
      repeat (refine And.intro (by omega) ?_)
      refine c_add hI.ptr hH (u := p) (g := rgW V) (e := fun _ => 0) hn.2 (by omega) (Or.inr (Or.inl rfl)) g2 rfl g3 fun H3 b1 b2 => ?_
      exact ih H3 _ (g1.tr (b1.up sLN_RA)) b2
    · intro k hk ih2 H2 g1 g2 g3
      have hH := hV0.fx g1 sRA_scr
      have c2 : ¬ (nS V : Int) ≤ k := by omega
      have q1 : ∀ {Q : AV → Hp → Prop}, CC (d + 2) PL_leverOf [va (V 4 0), vi 1, vi k] H2 Q = Q (vl (lvr V 1 k)) H2 := q_leverOf hI hH (q := 1) (by omega) hk
      rw [e_RA_setLanes_2]
      have f := hH.f hI.ptr; have g := pl_f hH hI.pp hI.ptr; simp only [k_RA_setLanes_2, rr, sh, Nat.reduceLT, Nat.reduceMul, Int.reduceToNat, Int.reduceGT, Int.reduceGE, Int.reduceNe, true_and, and_true, true_or, or_true, false_or, or_false, and_self, or_self, if_true, if_false, reduceIte, not_true_eq_false, not_false_eq_true, Int.reduceEq, Int.reduceNe, Int.reduceLT, Int.reduceLE, Int.reduceAdd, Int.reduceSub, Int.reduceMul, Int.reduceNeg, Nat.reduceAdd, Nat.reduceLeDiff, Nat.reduceEqDiff, ne_eq, List.length_cons, List.length_nil, Nat.reduceSub, ite10_0, ite10_1, ite10_01, Classical.not_not, f, g, h1, c2, w2, q_forceIn hI hH hk i1 i2, q1, w32_s (show k < 2147483647 by omega)] <;> clear f g w2
      repeat (refine And.intro (by omega) ?_)
      refine ih2 _ (g1.hs (c := 55) (j := (k : Int)) rfl) (g2.hs (by decide) (by decide) (by decide)) ?_
      intro j hj
      rw [hs_app]
      by_cases h : j = k
      · rw [if_pos ⟨rfl, by omega⟩, h]; rfl
      · rw [if_neg (by omega)]; exact g3 j (by omega)
set_option maxRecDepth 20000 in
theorem q_greatestOf (hP : Ptr V) (hH : Vw V H) {n b u : Nat} {g : Nat → Nat → Int} {e : Nat → Int} (hL : LaneS H n u g e b) : CC (d + 1) RA_greatestOf [va 42] H Q = Q (vl (mxI (fun i => abL (lnv g e n b i.toNat)) 0 u)) H := by
  refine CC_dt fun Q hQ => ?_
  obtain ⟨l1, l2, l3, l4⟩ := hL
  have f := hH.f hP
  simp only [en_RA_greatestOf, e_RA_greatestOf_0, k_RA_greatestOf_0, rr, sh, Nat.reduceLT, Nat.reduceMul, Int.reduceToNat, Int.reduceGT, Int.reduceGE, Int.reduceNe, true_and, and_true, true_or, or_true, false_or, or_false, and_self, or_self, if_true, if_false, reduceIte, not_true_eq_false, not_false_eq_true, Int.reduceEq, Int.reduceNe, Int.reduceLT, Int.reduceLE, Int.reduceAdd, Int.reduceSub, Int.reduceMul, Int.reduceNeg, Nat.reduceAdd, Nat.reduceLeDiff, Nat.reduceEqDiff, ne_eq, List.length_cons, List.length_nil, Nat.reduceSub, f]
  clear f
  repeat (refine And.intro (by omega) ?_)
  refine up_nat (P := fun k => R (d + 1) RA_greatestOf (blk RA_greatestOf 1) [va 42, vl (mxI (fun i => abL (lnv g e n b i.toNat)) 0 k), vu, vi k] [] H Q) ?_ ?_ 0 (Nat.zero_le u)
  · rw [e_RA_greatestOf_1]
    simp only [k_RA_greatestOf_1, e_RA_greatestOf_2, k_RA_greatestOf_2, rr, sh, Nat.reduceLT, Nat.reduceMul, Int.reduceToNat, Int.reduceGT, Int.reduceGE, Int.reduceNe, true_and, and_true, true_or, or_true, false_or, or_false, and_self, or_self, if_true, if_false, reduceIte, not_true_eq_false, not_false_eq_true, Int.reduceEq, Int.reduceNe, Int.reduceLT, Int.reduceLE, Int.reduceAdd, Int.reduceSub, Int.reduceMul, Int.reduceNeg, Nat.reduceAdd, Nat.reduceLeDiff, Nat.reduceEqDiff, ne_eq, List.length_cons, List.length_nil, Nat.reduceSub, ite10_0, ite10_1, ite10_01, Classical.not_not, l1, Int.le_refl]
    exact hQ
  · intro k hk ih
    have c1 : ¬ (u : Int) ≤ k := by omega
    have e1 := l3 k hk
    have f := hH.f hP
    rw [e_RA_greatestOf_1]
    simp only [k_RA_greatestOf_1, rr, sh, Nat.reduceLT, Nat.reduceMul, Int.reduceToNat, Int.reduceGT, Int.reduceGE, Int.reduceNe, true_and, and_true, true_or, or_true, false_or, or_false, and_self, or_self, if_true, if_false, reduceIte, not_true_eq_false, not_false_eq_true, Int.reduceEq, Int.reduceNe, Int.reduceLT, Int.reduceLE, Int.reduceAdd, Int.reduceSub, Int.reduceMul, Int.reduceNeg, Nat.reduceAdd, Nat.reduceLeDiff, Nat.reduceEqDiff, ne_eq, List.length_cons, List.length_nil, Nat.reduceSub, f, l1, c1, e1, q_absL, q_maxL, w32_s (show k < 2147483647 by omega)]
    clear f e1 l3 l4 hQ
    repeat (refine And.intro (by omega) ?_)
    have e2 : (0 + (k : Int)).toNat = k := by omega
    have : mxI (fun i => abL (lnv g e n b i.toNat)) 0 (k + 1) = max (mxI (fun i => abL (lnv g e n b i.toNat)) 0 k) (abL (lnv g e n b (0 + (k : Int)).toNat)) := rfl
    rw [this, e2] at ih
    exact ih
theorem lanes_gr {n b : Nat} (hn : 1 ≤ n) (h0 : 0 ≤ V 71 47) : mxI (fun i => abL (lnv (rgW V) (fun _ => 0) (nS V) b i.toNat)) 0 (ntn V n) = grS V n b := by
  rw [← gr_ten hn h0]
  have key : ∀ i : Nat, abL (lnv (rgW V) (fun _ => 0) (nS V) b (0 + (i : Int)).toNat) = swA V b ((ftn V + i) * 10) := by
    intro i
    have e2 : (0 + (i : Int)).toNat = i := by omega
    rw [e2]
    unfold lnv swA
    rw [Int.zero_add]
    rfl
  exact mxI_eq (fun i hi => ⟨i, hi, key i⟩) (fun i hi => ⟨i, hi, (key i).symm⟩)
def nbR (H : Hp) (z : Int) : Option (Nat × Int) → Prop
  | none => z = 0
  | some q => z = 1 ∧ H 54 3 = q.2 ∧ H 54 4 = q.1
set_option maxRecDepth 20000 in
theorem c_findStillest (hI : Inq V) (hH : Vw V H) {n : Nat} (hn1 : 1 ≤ n) (hn2 : n ≤ 300) (hQ : ∀ H', Vw V H' → ∀ z, nbR H' z (stillO V n) → (z = 0 ∨ z = 1) → Q (vi z) H') : CC (d + 4) RA_findStillest [va 54, va 4, va 42, vi n] H Q := by
  have hn := hI.boat.s
  have h1 := hI.plan.seats
  have ht := hI.crew.stroke
  have h2 : 2 ^ nS V ≤ 4096 := Nat.pow_le_pow_right (by decide) hn.2
  have e0 := one_shl hn.2
  have hsh : shc (V 4 0) = 5 := by rcases hI.pp with h | h <;> rw [h] <;> rfl
  have f := hH.f hI.ptr; have g := pl_f hH hI.pp hI.ptr; simp only [en_RA_findStillest, e_RA_findStillest_0, k_RA_findStillest_0, rr, sh, Nat.reduceLT, Nat.reduceMul, Int.reduceToNat, Int.reduceGT, Int.reduceGE, Int.reduceNe, true_and, and_true, true_or, or_true, false_or, or_false, and_self, or_self, if_true, if_false, reduceIte, not_true_eq_false, not_false_eq_true, Int.reduceEq, Int.reduceNe, Int.reduceLT, Int.reduceLE, Int.reduceAdd, Int.reduceSub, Int.reduceMul, Int.reduceNeg, Nat.reduceAdd, Nat.reduceLeDiff, Nat.reduceEqDiff, ne_eq, List.length_cons, List.length_nil, Nat.reduceSub, ite10_0, ite10_1, ite10_01, Classical.not_not, f, g] <;> clear f g
  repeat (refine And.intro (by omega) ?_)
  refine c_setLanesR hI hH hn1 hn2 fun H1 b1 b2 => ?_
  have hV0 := hH
  have hH := hV0.fx b1 sRA_scr
  have e1 : H1 (V 4 0) 0 = nS V := by rw [(pl_f hH hI.pp hI.ptr).2.1]; exact h1
  simp only [e1, e0]
  repeat (refine And.intro (by omega) ?_)
  refine up_nat (P := fun m => ∀ H' z x y, Fx sRA H H' → LaneS H' (nS V) (ntn V n) (rgW V) (fun _ => 0) (m - 1) → nbR H' z (nbF (lawB V) (grS V n) m) → (z = 0 ∨ z = 1) → R (d + 4) RA_findStillest (blk RA_findStillest 1) [va 54, va 4, va 42, vi n, va (V 4 0), vi z, vi ((2 ^ nS V : Nat) : Int), vi m, x, y] [] H' Q) ?_ ?_ 0 (Nat.zero_le (2 ^ nS V)) _ 0 vu vu b1 b2 rfl (Or.inl rfl)
  · intro H' z x y a1 a2 a3 a4
    rw [e_RA_findStillest_1]
    simp only [k_RA_findStillest_1, e_RA_findStillest_5, k_RA_findStillest_5, rr, sh, Nat.reduceLT, Nat.reduceMul, Int.reduceToNat, Int.reduceGT, Int.reduceGE, Int.reduceNe, true_and, and_true, true_or, or_true, false_or, or_false, and_self, or_self, if_true, if_false, reduceIte, not_true_eq_false, not_false_eq_true, Int.reduceEq, Int.reduceNe, Int.reduceLT, Int.reduceLE, Int.reduceAdd, Int.reduceSub, Int.reduceMul, Int.reduceNeg, Nat.reduceAdd, Nat.reduceLeDiff, Nat.reduceEqDiff, ne_eq, List.length_cons, List.length_nil, Nat.reduceSub, ite10_0, ite10_1, ite10_01, Classical.not_not, Int.le_refl]
    exact ⟨a4, hQ H' (hV0.fx a1 sRA_scr) z a3 a4⟩
  · intro m hm ih H' z x y a1 a2 a3 a4
    have hH := hV0.fx a1 sRA_scr
    have c1 : ¬ ((2 ^ nS V : Nat) : Int) ≤ m := by omega
    have hm4 : m < 4096 := by omega
    have rest : ∀ H2, Fx sRA H H2 → LaneS H2 (nS V) (ntn V n) (rgW V) (fun _ => 0) m → nbR H2 z (nbF (lawB V) (grS V n) m) → R (d + 4) RA_findStillest (blk RA_findStillest 2) [va 54, va 4, va 42, vi n, va (V 4 0), vi z, vi ((2 ^ nS V : Nat) : Int), vi m, x, y] [] H2 Q := by
      intro H2 g1 g2 g3
      have hH := hV0.fx g1 sRA_scr
      have eo : nbF (lawB V) (grS V n) (m + 1) = if lawB V m = true then updO (nbF (lawB V) (grS V n) m) m (grS V n m) else nbF (lawB V) (grS V n) m := rfl
      have el := lanes_gr (V := V) (b := m) hn1 ht.1
      have f := hH.f hI.ptr; have g := pl_f hH hI.pp hI.ptr; simp only [e_RA_findStillest_2, k_RA_findStillest_2, e_RA_findStillest_3, k_RA_findStillest_3, e_RA_findStillest_4, k_RA_findStillest_4, rr, sh, Nat.reduceLT, Nat.reduceMul, Int.reduceToNat, Int.reduceGT, Int.reduceGE, Int.reduceNe, true_and, and_true, true_or, or_true, false_or, or_false, and_self, or_self, if_true, if_false, reduceIte, not_true_eq_false, not_false_eq_true, Int.reduceEq, Int.reduceNe, Int.reduceLT, Int.reduceLE, Int.reduceAdd, Int.reduceSub, Int.reduceMul, Int.reduceNeg, Nat.reduceAdd, Nat.reduceLeDiff, Nat.reduceEqDiff, ne_eq, List.length_cons, List.length_nil, Nat.reduceSub, ite10_0, ite10_1, ite10_01, Classical.not_not, f, g, hsh, q_allows hI hH hm4, q_greatestOf hI.ptr hH g2, el, c3_ge, w32_s (show m < 2147483647 by omega)] <;> clear f g
      by_cases hl : lawB V m = true
      · rw [if_pos hl] at eo
        rw [if_neg (fun q => q hl)]
        repeat (refine And.intro (by omega) ?_)
        cases ho : nbF (lawB V) (grS V n) m with
        | none =>
          rw [ho] at g3 eo
          have g3 : z = 0 := g3
          rw [if_pos g3]
          repeat (refine And.intro (by omega) ?_)
          exact ih _ 1 _ _ ((g1.hs (c := 54) (j := 3) rfl).hs (c := 54) (j := 4) rfl) (by rw [Nat.add_sub_cancel]; exact (g2.hs (by decide) (by decide) (by decide)).hs (by decide) (by decide) (by decide)) (by rw [eo]; exact ⟨rfl, rfl, rfl⟩) (Or.inr rfl)
        | some q =>
          rw [ho] at g3 eo
          obtain ⟨g4, g5, g6⟩ := g3
          have eo : nbF (lawB V) (grS V n) (m + 1) = if grS V n m < q.2 then some (m, grS V n m) else some q := eo
          rw [if_neg (by omega), g5]
          by_cases hlt : grS V n m < q.2
          · rw [if_pos hlt] at eo
            rw [if_neg (by omega)]
            repeat (refine And.intro (by omega) ?_)
            exact ih _ 1 _ _ ((g1.hs (c := 54) (j := 3) rfl).hs (c := 54) (j := 4) rfl) (by rw [Nat.add_sub_cancel]; exact (g2.hs (by decide) (by decide) (by decide)).hs (by decide) (by decide) (by decide)) (by rw [eo]; exact ⟨rfl, rfl, rfl⟩) (Or.inr rfl)
          · rw [if_neg hlt] at eo
            rw [if_pos (by omega)]
            repeat (refine And.intro (by omega) ?_)
            exact ih _ _ _ _ g1 (by rw [Nat.add_sub_cancel]; exact g2) (by rw [eo]; exact ⟨g4, g5, g6⟩) a4
      · rw [if_neg hl] at eo
        rw [if_pos hl]
        repeat (refine And.intro (by omega) ?_)
        exact ih _ _ _ _ g1 (by rw [Nat.add_sub_cancel]; exact g2) (by rw [eo]; exact g3) a4
    rw [e_RA_findStillest_1]
    by_cases h0 : m = 0
    · subst h0
      have z0 : ((0 : Nat) : Int) ≤ 0 := Int.le_refl 0
      simp only [k_RA_findStillest_1, rr, sh, Nat.reduceLT, Nat.reduceMul, Int.reduceToNat, Int.reduceGT, Int.reduceGE, Int.reduceNe, true_and, and_true, true_or, or_true, false_or, or_false, and_self, or_self, if_true, if_false, reduceIte, not_true_eq_false, not_false_eq_true, Int.reduceEq, Int.reduceNe, Int.reduceLT, Int.reduceLE, Int.reduceAdd, Int.reduceSub, Int.reduceMul, Int.reduceNeg, Nat.reduceAdd, Nat.reduceLeDiff, Nat.reduceEqDiff, ne_eq, List.length_cons, List.length_nil, Nat.reduceSub, ite10_0, ite10_1, ite10_01, Classical.not_not, c1, z0]
      exact rest H' a1 a2 a3
    · have c2 : ¬ (m : Int) ≤ 0 := by omega
      have f := hH.f hI.ptr; have g := pl_f hH hI.pp hI.ptr; simp only [k_RA_findStillest_1, rr, sh, Nat.reduceLT, Nat.reduceMul, Int.reduceToNat, Int.reduceGT, Int.reduceGE, Int.reduceNe, true_and, and_true, true_or, or_true, false_or, or_false, and_self, or_self, if_true, if_false, reduceIte, not_true_eq_false, not_false_eq_true, Int.reduceEq, Int.reduceNe, Int.reduceLT, Int.reduceLE, Int.reduceAdd, Int.reduceSub, Int.reduceMul, Int.reduceNeg, Nat.reduceAdd, Nat.reduceLeDiff, Nat.reduceEqDiff, ne_eq, List.length_cons, List.length_nil, Nat.reduceSub, ite10_0, ite10_1, ite10_01, Classical.not_not, f, g, c1, c2] <;> clear f g
      repeat (refine And.intro (by omega) ?_)
      refine c_advance hI.ptr hH hn.2 h0 hm a2 fun H3 i1 i2 => ?_
      refine rest H3 (a1.tr (i1.up sLN_RA)) i2 ?_
      have : H3 54 = H' 54 := i1.cell 54 (fun _ => rfl)
      unfold nbR
      rw [this]
      exact a3
set_option maxRecDepth 20000 in
theorem c_stillestC (hI : Inq V) (hH : Vw V H) {n w : Int} (hQ : ∀ H', Vw V H' → Q (vl (stillS V n w)) H') : CC (d + 5) EO_stillest [va 1, vi n, vi w] H Q := by
  by_cases hw : (1 ≤ n ∧ n ≤ 300) ∧ 0 ≤ w ∧ w ≤ 1
  · obtain ⟨k, rfl⟩ := Int.eq_ofNat_of_zero_le (show 0 ≤ n by omega)
    have c1 : ¬ (k : Int) < 1 := by omega
    have c2 : ¬ 300 < (k : Int) := by omega
    have c3 : ¬ w < 0 := by omega
    have c4 : ¬ 1 < w := by omega
    have f := hH.f hI.ptr; have g := pl_f hH hI.pp hI.ptr; simp only [en_EO_stillest, e_EO_stillest_0, k_EO_stillest_0, e_EO_stillest_1, k_EO_stillest_1, rr, sh, Nat.reduceLT, Nat.reduceMul, Int.reduceToNat, Int.reduceGT, Int.reduceGE, Int.reduceNe, true_and, and_true, true_or, or_true, false_or, or_false, and_self, or_self, if_true, if_false, reduceIte, not_true_eq_false, not_false_eq_true, Int.reduceEq, Int.reduceNe, Int.reduceLT, Int.reduceLE, Int.reduceAdd, Int.reduceSub, Int.reduceMul, Int.reduceNeg, Nat.reduceAdd, Nat.reduceLeDiff, Nat.reduceEqDiff, ne_eq, List.length_cons, List.length_nil, Nat.reduceSub, ite10_0, ite10_1, ite10_01, Classical.not_not, f, g, c1, c2, c3, c4] <;> clear f g
    repeat (refine And.intro (by omega) ?_)
    refine c_findStillest hI hH (by omega) (by omega) fun H1 hH z b2 hz => ?_
    have hq := hQ H1 hH
    unfold stillS at hq
    rw [if_pos hw] at hq
    have hq : Q (vl (match stillO V k with | none => -1 | some q => if w = 0 then q.2 else q.1)) H1 := hq
    cases ho : stillO V k with
    | none =>
      rw [ho] at b2 hq
      have b2 : z = 0 := b2
      subst b2
      simp only [e_EO_stillest_1, k_EO_stillest_1, rr, sh, Nat.reduceLT, Nat.reduceMul, Int.reduceToNat, Int.reduceGT, Int.reduceGE, Int.reduceNe, true_and, and_true, true_or, or_true, false_or, or_false, and_self, or_self, if_true, if_false, reduceIte, not_true_eq_false, not_false_eq_true, Int.reduceEq, Int.reduceNe, Int.reduceLT, Int.reduceLE, Int.reduceAdd, Int.reduceSub, Int.reduceMul, Int.reduceNeg, Nat.reduceAdd, Nat.reduceLeDiff, Nat.reduceEqDiff, ne_eq, List.length_cons, List.length_nil, Nat.reduceSub, ite10_0, ite10_1, ite10_01, Classical.not_not]
      exact hq
    | some q =>
      rw [ho] at b2 hq
      obtain ⟨rfl, b4, b5⟩ := b2
      have hq : Q (vl (if w = 0 then q.2 else q.1)) H1 := hq
      have z1 : ¬ ((1 : Int) = 0) := by decide
      have f := hH.f hI.ptr; have g := pl_f hH hI.pp hI.ptr; simp only [e_EO_stillest_1, k_EO_stillest_1, e_EO_stillest_2, k_EO_stillest_2, e_EO_stillest_3, k_EO_stillest_3, e_EO_stillest_4, k_EO_stillest_4, rr, sh, Nat.reduceLT, Nat.reduceMul, Int.reduceToNat, Int.reduceGT, Int.reduceGE, Int.reduceNe, true_and, and_true, true_or, or_true, false_or, or_false, and_self, or_self, if_true, if_false, reduceIte, not_true_eq_false, not_false_eq_true, Int.reduceEq, Int.reduceNe, Int.reduceLT, Int.reduceLE, Int.reduceAdd, Int.reduceSub, Int.reduceMul, Int.reduceNeg, Nat.reduceAdd, Nat.reduceLeDiff, Nat.reduceEqDiff, ne_eq, List.length_cons, List.length_nil, Nat.reduceSub, ite10_0, ite10_1, ite10_01, Classical.not_not, f, g, b4, b5, z1] <;> clear f g
      by_cases hw3 : w = 0
      · rw [if_pos hw3] at hq; simp only [hw3, not_true_eq_false, if_false]; exact hq
      · rw [if_neg hw3] at hq; simp only [hw3, not_false_eq_true, if_true]; exact hq
  · have hq := hQ H hH
    unfold stillS at hq
    rw [if_neg hw] at hq
    by_cases c1 : n < 1
    · have f := hH.f hI.ptr; have g := pl_f hH hI.pp hI.ptr; simp only [en_EO_stillest, e_EO_stillest_0, k_EO_stillest_0, e_EO_stillest_1, k_EO_stillest_1, rr, sh, Nat.reduceLT, Nat.reduceMul, Int.reduceToNat, Int.reduceGT, Int.reduceGE, Int.reduceNe, true_and, and_true, true_or, or_true, false_or, or_false, and_self, or_self, if_true, if_false, reduceIte, not_true_eq_false, not_false_eq_true, Int.reduceEq, Int.reduceNe, Int.reduceLT, Int.reduceLE, Int.reduceAdd, Int.reduceSub, Int.reduceMul, Int.reduceNeg, Nat.reduceAdd, Nat.reduceLeDiff, Nat.reduceEqDiff, ne_eq, List.length_cons, List.length_nil, Nat.reduceSub, ite10_0, ite10_1, ite10_01, Classical.not_not, f, g, c1] <;> clear f g
      exact hq
    · by_cases c2 : 300 < n
      · have f := hH.f hI.ptr; have g := pl_f hH hI.pp hI.ptr; simp only [en_EO_stillest, e_EO_stillest_0, k_EO_stillest_0, e_EO_stillest_1, k_EO_stillest_1, rr, sh, Nat.reduceLT, Nat.reduceMul, Int.reduceToNat, Int.reduceGT, Int.reduceGE, Int.reduceNe, true_and, and_true, true_or, or_true, false_or, or_false, and_self, or_self, if_true, if_false, reduceIte, not_true_eq_false, not_false_eq_true, Int.reduceEq, Int.reduceNe, Int.reduceLT, Int.reduceLE, Int.reduceAdd, Int.reduceSub, Int.reduceMul, Int.reduceNeg, Nat.reduceAdd, Nat.reduceLeDiff, Nat.reduceEqDiff, ne_eq, List.length_cons, List.length_nil, Nat.reduceSub, ite10_0, ite10_1, ite10_01, Classical.not_not, f, g, c1, c2] <;> clear f g
        exact hq
      · by_cases c3 : w < 0
        · have f := hH.f hI.ptr; have g := pl_f hH hI.pp hI.ptr; simp only [en_EO_stillest, e_EO_stillest_0, k_EO_stillest_0, e_EO_stillest_1, k_EO_stillest_1, rr, sh, Nat.reduceLT, Nat.reduceMul, Int.reduceToNat, Int.reduceGT, Int.reduceGE, Int.reduceNe, true_and, and_true, true_or, or_true, false_or, or_false, and_self, or_self, if_true, if_false, reduceIte, not_true_eq_false, not_false_eq_true, Int.reduceEq, Int.reduceNe, Int.reduceLT, Int.reduceLE, Int.reduceAdd, Int.reduceSub, Int.reduceMul, Int.reduceNeg, Nat.reduceAdd, Nat.reduceLeDiff, Nat.reduceEqDiff, ne_eq, List.length_cons, List.length_nil, Nat.reduceSub, ite10_0, ite10_1, ite10_01, Classical.not_not, f, g, c1, c2, c3] <;> clear f g
          exact hq
        · have c4 : 1 < w := by omega
          have f := hH.f hI.ptr; have g := pl_f hH hI.pp hI.ptr; simp only [en_EO_stillest, e_EO_stillest_0, k_EO_stillest_0, e_EO_stillest_1, k_EO_stillest_1, rr, sh, Nat.reduceLT, Nat.reduceMul, Int.reduceToNat, Int.reduceGT, Int.reduceGE, Int.reduceNe, true_and, and_true, true_or, or_true, false_or, or_false, and_self, or_self, if_true, if_false, reduceIte, not_true_eq_false, not_false_eq_true, Int.reduceEq, Int.reduceNe, Int.reduceLT, Int.reduceLE, Int.reduceAdd, Int.reduceSub, Int.reduceMul, Int.reduceNeg, Nat.reduceAdd, Nat.reduceLeDiff, Nat.reduceEqDiff, ne_eq, List.length_cons, List.length_nil, Nat.reduceSub, ite10_0, ite10_1, ite10_01, Classical.not_not, f, g, c1, c2, c3, c4] <;> clear f g
          exact hq
set_option maxRecDepth 20000 in
theorem q_stillestM (hM : Inm V) (hH : Vw V H) {n w : Int} : CC (d + 4) MO_stillest [va 71, vi n, vi w] H Q = Q (vl (stillS V n w)) H := by
  refine CC_dt fun Q hQ => ?_
  have hn := hM.boat.s
  have ht := hM.crew.stroke
  have h2 : 2 ^ nS V ≤ 4096 := Nat.pow_le_pow_right (by decide) hn.2
  have e0 := one_shl hn.2
  unfold stillS at hQ
  by_cases hw1 : 1 ≤ n ∧ n ≤ 300
  · by_cases hw2 : 0 ≤ w ∧ w ≤ 1
    · rw [if_pos ⟨hw1, hw2⟩] at hQ
      obtain ⟨k, rfl⟩ := Int.eq_ofNat_of_zero_le (show 0 ≤ n by omega)
      have hQ : Q (vl (match stillO V k with | none => -1 | some q => if w = 0 then q.2 else q.1)) H := hQ
      have w1 : w32 (V 71 47 + 1) = V 71 47 + 1 := w32_id (by omega) (by omega)
      have w2 : w32 (V 71 47 + k) = V 71 47 + 1 + k - 1 := by rw [w32_id (by omega) (by omega)]; omega
      have i1 : 0 ≤ V 71 47 + 1 := by omega
      have i2 : V 71 47 + 1 ≤ 10400 := by omega
      have i3 : k ≤ 300 := by omega
      have f := hH.f hM.ptr; simp only [en_MO_stillest, e_MO_stillest_0, k_MO_stillest_0, e_MO_stillest_1, k_MO_stillest_1, e_MO_stillest_2, k_MO_stillest_2, rr, sh, Nat.reduceLT, Nat.reduceMul, Int.reduceToNat, Int.reduceGT, Int.reduceGE, Int.reduceNe, true_and, and_true, true_or, or_true, false_or, or_false, and_self, or_self, if_true, if_false, reduceIte, not_true_eq_false, not_false_eq_true, Int.reduceEq, Int.reduceNe, Int.reduceLT, Int.reduceLE, Int.reduceAdd, Int.reduceSub, Int.reduceMul, Int.reduceNeg, Nat.reduceAdd, Nat.reduceLeDiff, Nat.reduceEqDiff, ne_eq, List.length_cons, List.length_nil, Nat.reduceSub, ite10_0, ite10_1, ite10_01, Classical.not_not, f, q_isIn, hw1, hw2] <;> clear f
      repeat (refine And.intro (by omega) ?_)
      refine up_nat (P := fun m => ∀ (z x : Int) (y u : AV), (match nbF (lawB V) (grS V k) m with | none => z = -1 | some q => z = q.1 ∧ x = q.2) → R (d + 4) MO_stillest (blk MO_stillest 3) [va 71, vi k, vi w, vi z, vl x, vu, vi m, y, u] [] H Q) ?_ ?_ 0 (Nat.zero_le (2 ^ nS V)) (-1) 0 vu vu rfl
      · intro z x y u ho
        rw [e_MO_stillest_3]
        unfold stillO at hQ
        cases hoo : nbF (lawB V) (grS V k) (2 ^ nS V) with
        | none =>
          rw [hoo] at ho hQ
          have ho : z = -1 := ho
          have f := hH.f hM.ptr; simp only [k_MO_stillest_3, e_MO_stillest_7, k_MO_stillest_7, e_MO_stillest_8, k_MO_stillest_8, e_MO_stillest_9, k_MO_stillest_9, e_MO_stillest_10, k_MO_stillest_10, en_MO_seats, e_MO_seats_0, k_MO_seats_0, rr, sh, Nat.reduceLT, Nat.reduceMul, Int.reduceToNat, Int.reduceGT, Int.reduceGE, Int.reduceNe, true_and, and_true, true_or, or_true, false_or, or_false, and_self, or_self, if_true, if_false, reduceIte, not_true_eq_false, not_false_eq_true, Int.reduceEq, Int.reduceNe, Int.reduceLT, Int.reduceLE, Int.reduceAdd, Int.reduceSub, Int.reduceMul, Int.reduceNeg, Nat.reduceAdd, Nat.reduceLeDiff, Nat.reduceEqDiff, ne_eq, List.length_cons, List.length_nil, Nat.reduceSub, ite10_0, ite10_1, ite10_01, Classical.not_not, f, hn.1, e0, ho, Int.le_refl] <;> clear f e0
          exact hQ
        | some q =>
          rw [hoo] at ho hQ
          obtain ⟨rfl, rfl⟩ := ho
          have c1 : ¬ (q.1 : Int) = -1 := by omega
          have f := hH.f hM.ptr; simp only [k_MO_stillest_3, e_MO_stillest_7, k_MO_stillest_7, e_MO_stillest_8, k_MO_stillest_8, e_MO_stillest_9, k_MO_stillest_9, e_MO_stillest_10, k_MO_stillest_10, en_MO_seats, e_MO_seats_0, k_MO_seats_0, rr, sh, Nat.reduceLT, Nat.reduceMul, Int.reduceToNat, Int.reduceGT, Int.reduceGE, Int.reduceNe, true_and, and_true, true_or, or_true, false_or, or_false, and_self, or_self, if_true, if_false, reduceIte, not_true_eq_false, not_false_eq_true, Int.reduceEq, Int.reduceNe, Int.reduceLT, Int.reduceLE, Int.reduceAdd, Int.reduceSub, Int.reduceMul, Int.reduceNeg, Nat.reduceAdd, Nat.reduceLeDiff, Nat.reduceEqDiff, ne_eq, List.length_cons, List.length_nil, Nat.reduceSub, ite10_0, ite10_1, ite10_01, Classical.not_not, f, hn.1, e0, c1, Int.le_refl] <;> clear f e0
          by_cases hw3 : w = 0
          · simp only [hw3, if_true] at hQ ⊢; simpa using hQ
          · simp only [hw3, if_false] at hQ ⊢; simpa using hQ
      · intro m hm ih z x y u ho
        have c1 : ¬ ((2 ^ nS V : Nat) : Int) ≤ m := by omega
        have hm4 : m < 4096 := by omega
        have eo : nbF (lawB V) (grS V k) (m + 1) = if lawB V m = true then updO (nbF (lawB V) (grS V k) m) m (grS V k m) else nbF (lawB V) (grS V k) m := rfl
        have k1 := w1
        rw [e_MO_stillest_3]
        have f := hH.f hM.ptr; simp only [k_MO_stillest_3, e_MO_stillest_4, k_MO_stillest_4, e_MO_stillest_5, k_MO_stillest_5, e_MO_stillest_6, k_MO_stillest_6, en_MO_seats, e_MO_seats_0, k_MO_seats_0, rr, sh, Nat.reduceLT, Nat.reduceMul, Int.reduceToNat, Int.reduceGT, Int.reduceGE, Int.reduceNe, true_and, and_true, true_or, or_true, false_or, or_false, and_self, or_self, if_true, if_false, reduceIte, not_true_eq_false, not_false_eq_true, Int.reduceEq, Int.reduceNe, Int.reduceLT, Int.reduceLE, Int.reduceAdd, Int.reduceSub, Int.reduceMul, Int.reduceNeg, Nat.reduceAdd, Nat.reduceLeDiff, Nat.reduceEqDiff, ne_eq, List.length_cons, List.length_nil, Nat.reduceSub, ite10_0, ite10_1, ite10_01, Classical.not_not, f, hn.1, e0, c1, w1, w2, c3_lt, q_isLawful hM hH hm4, q_moGreatest hM hH hm4 i3 i1 i2, w32_s (show m < 2147483647 by omega)] <;> clear f e0 w1 w2
        repeat (refine And.intro (by omega) ?_)
        rw [show mxI (swA V m) (V 71 47 + 1) k = grS V k m from rfl]
        by_cases hl : lawB V m = true
        · rw [if_pos hl] at eo
          rw [if_pos hl]
          repeat (refine And.intro (by omega) ?_)
          cases hoo : nbF (lawB V) (grS V k) m with
          | none =>
            rw [hoo] at ho eo
            have ho : z = -1 := ho
            rw [if_pos ho]
            repeat (refine And.intro (by omega) ?_)
            exact ih _ _ _ _ (by rw [eo]; exact ⟨rfl, rfl⟩)
          | some q =>
            rw [hoo] at ho eo
            obtain ⟨rfl, rfl⟩ := ho
            have eo : nbF (lawB V) (grS V k) (m + 1) = if grS V k m < q.2 then some (m, grS V k m) else some q := eo
            rw [if_neg (by omega)]
            by_cases hlt : grS V k m < q.2
            · rw [if_pos hlt] at eo
              rw [if_pos hlt]
              repeat (refine And.intro (by omega) ?_)
              exact ih _ _ _ _ (by rw [eo]; exact ⟨rfl, rfl⟩)
            · rw [if_neg hlt] at eo
              rw [if_neg hlt]
              repeat (refine And.intro (by omega) ?_)
              exact ih _ _ _ _ (by rw [eo]; exact ⟨rfl, rfl⟩)
        · rw [if_neg hl] at eo
          rw [if_neg hl]
          repeat (refine And.intro (by omega) ?_)
          exact ih _ _ _ _ (by rw [eo]; exact ho)
    · rw [if_neg (fun q => hw2 q.2)] at hQ
      have f := hH.f hM.ptr; simp only [en_MO_stillest, e_MO_stillest_0, k_MO_stillest_0, e_MO_stillest_1, k_MO_stillest_1, e_MO_stillest_2, k_MO_stillest_2, rr, sh, Nat.reduceLT, Nat.reduceMul, Int.reduceToNat, Int.reduceGT, Int.reduceGE, Int.reduceNe, true_and, and_true, true_or, or_true, false_or, or_false, and_self, or_self, if_true, if_false, reduceIte, not_true_eq_false, not_false_eq_true, Int.reduceEq, Int.reduceNe, Int.reduceLT, Int.reduceLE, Int.reduceAdd, Int.reduceSub, Int.reduceMul, Int.reduceNeg, Nat.reduceAdd, Nat.reduceLeDiff, Nat.reduceEqDiff, ne_eq, List.length_cons, List.length_nil, Nat.reduceSub, ite10_0, ite10_1, ite10_01, Classical.not_not, f, q_isIn, hw1, hw2] <;> clear f
      exact hQ
  · rw [if_neg (fun q => hw1 q.1)] at hQ
    have f := hH.f hM.ptr; simp only [en_MO_stillest, e_MO_stillest_0, k_MO_stillest_0, e_MO_stillest_1, k_MO_stillest_1, e_MO_stillest_2, k_MO_stillest_2, rr, sh, Nat.reduceLT, Nat.reduceMul, Int.reduceToNat, Int.reduceGT, Int.reduceGE, Int.reduceNe, true_and, and_true, true_or, or_true, false_or, or_false, and_self, or_self, if_true, if_false, reduceIte, not_true_eq_false, not_false_eq_true, Int.reduceEq, Int.reduceNe, Int.reduceLT, Int.reduceLE, Int.reduceAdd, Int.reduceSub, Int.reduceMul, Int.reduceNeg, Nat.reduceAdd, Nat.reduceLeDiff, Nat.reduceEqDiff, ne_eq, List.length_cons, List.length_nil, Nat.reduceSub, ite10_0, ite10_1, ite10_01, Classical.not_not, f, q_isIn, hw1] <;> clear f
    exact hQ
end ST
