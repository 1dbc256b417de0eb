/-! nearest sides, found -/
def s45 (a b : Int) : Bool := if a = 45 then (decide (b = 2) || decide (b = 3) || decide (b = 4) || decide (b = 5)) else false
theorem s45_NE (a b : Int) (h : s45 a b = true) : sNE a b = true := by
  unfold s45 at h
  by_cases h2 : a = 45
  · subst h2; simp at h; unfold sNE; simpa using h
  · rw [if_neg h2] at h; cases h
def nbH (H : Hp) : Option (Nat × Int) → Prop
  | none => H 45 2 = 0
  | some q => H 45 2 = 1 ∧ H 45 3 = q.2 ∧ H 45 4 = q.1
def nbM (H : Hp) : Option (Nat × Int) → Prop
  | none => H 71 59 = -1
  | some q => H 71 59 = q.1 ∧ H 71 60 = q.2
def one (c : Prop) [Decidable c] : Int := if c then 1 else 0
section NE
variable {d : Nat} {V H : Hp} {Q : AV → Hp → Prop}
theorem lnv_gap {F : Nat → Int} {b i : Nat} : abL (lnv (ngW V F) (ngE V) (nS V) b i) = gapF V F (wpw V i) b := by
  unfold lnv gapF ngE
  congr 1
  rw [w64_sl]
  show w64 (-_ + swF V F (wpw V i) b) = _
  rw [Int.sub_eq_add_neg, Int.add_comm]
theorem LaneS.fr {H H' : Hp} {n u b : Nat} {g : Nat → Nat → Int} {e : Nat → Int} (h : LaneS H n u g e b) (h1 : H' 42 = H 42) (h2 : H' 43 = H 43) (h3 : H' 44 = H 44) : LaneS H' n u g e b := by
  obtain ⟨l1, l2, l3, l4⟩ := h
  exact ⟨by rw [h1]; exact l1, l2, fun i hi => by rw [h2]; exact l3 i hi, fun i k hi hk => by rw [h3]; exact l4 i k hi hk⟩
set_option maxRecDepth 20000 in
theorem c_weigh (hI : Inq V) (hH : Vw V H) {F : Nat → Int} {b : Nat} {o : Option (Nat × Int)} {c : Int} (hL : LaneS H (nS V) (wcn V 4) (ngW V F) (ngE V) b) (ho : nbH H o) (hc : H 45 5 = c) (hcr : 0 ≤ c ∧ c ≤ 100000)
    (hQ : ∀ H', Fx s45 H H' → nbH H' (updO o b (offF V F b)) → H' 45 5 = c + (if goodF V F b = true then 1 else 0) → Q vu H') : CC (d + 1) NE_weigh [va 45, va 42, vi (V 99 1), vi b] H Q := by
  obtain ⟨l1, l2, l3, l4⟩ := hL
  have f := hH.f hI.ptr; have g := pl_f hH hI.pp hI.ptr; simp only [en_NE_weigh, e_NE_weigh_0, k_NE_weigh_0, rr, sh, Nat.reduceLT, Nat.reduceMul, Int.reduceToNat, Int.reduceGT, Int.reduceGE, Int.reduceNe, true_and, and_true, true_or, or_true, false_or, or_false, and_self, or_self, if_true, if_false, reduceIte, not_true_eq_false, not_false_eq_true, Int.reduceEq, Int.reduceNe, Int.reduceLT, Int.reduceLE, Int.reduceAdd, Int.reduceSub, Int.reduceMul, Int.reduceNeg, Nat.reduceAdd, Nat.reduceLeDiff, Nat.reduceEqDiff, ne_eq, List.length_cons, List.length_nil, Nat.reduceSub, ite10_0, ite10_1, ite10_01, Classical.not_not, f, g] <;> clear f g
  repeat (refine And.intro (by omega) ?_)
  have tail : ∀ z, R (d + 1) NE_weigh k_NE_weigh_4 [va 45, va 42, vi (V 99 1), vi b, vl (offF V F b), vu, vi (if goodF V F b = true then 1 else 0), vi (wcn V 4), z, vu] [] H Q := by
    intro z
    have w1 : w32 (c + 1) = c + 1 := w32_id (by omega) (by omega)
    have key : ∀ H1, Fx s45 H H1 → nbH H1 o → H1 45 5 = c + (if goodF V F b = true then 1 else 0) → R (d + 1) NE_weigh (blk NE_weigh 5) [va 45, va 42, vi (V 99 1), vi b, vl (offF V F b), vu, vi (if goodF V F b = true then 1 else 0), vi (wcn V 4), z, vu] [] H1 Q := by
      intro H1 a1 a2 a3
      have hset : Q vu (hs (hs (hs H1 45 2 1) 45 3 (offF V F b)) 45 4 b) ∨ True := Or.inr trivial
      cases o with
      | none =>
        have a2 : H1 45 2 = 0 := a2
        simp only [e_NE_weigh_5, k_NE_weigh_5, e_NE_weigh_6, k_NE_weigh_6, e_NE_weigh_7, k_NE_weigh_7, rr, sh, Nat.reduceLT, Nat.reduceMul, Int.reduceToNat, Int.reduceGT, Int.reduceGE, Int.reduceNe, true_and, and_true, true_or, or_true, false_or, or_false, and_self, or_self, if_true, if_false, reduceIte, not_true_eq_false, not_false_eq_true, Int.reduceEq, Int.reduceNe, Int.reduceLT, Int.reduceLE, Int.reduceAdd, Int.reduceSub, Int.reduceMul, Int.reduceNeg, Nat.reduceAdd, Nat.reduceLeDiff, Nat.reduceEqDiff, ne_eq, List.length_cons, List.length_nil, Nat.reduceSub, ite10_0, ite10_1, ite10_01, Classical.not_not, a2]
        refine hQ _ (((a1.hs (c := 45) (j := 2) rfl).hs (c := 45) (j := 3) rfl).hs (c := 45) (j := 4) rfl) ⟨rfl, rfl, rfl⟩ a3
      | some q =>
        obtain ⟨a4, a5, a6⟩ := a2
        simp only [e_NE_weigh_5, k_NE_weigh_5, e_NE_weigh_6, k_NE_weigh_6, e_NE_weigh_7, k_NE_weigh_7, rr, sh, Nat.reduceLT, Nat.reduceMul, Int.reduceToNat, Int.reduceGT, Int.reduceGE, Int.reduceNe, true_and, and_true, true_or, or_true, false_or, or_false, and_self, or_self, if_true, if_false, reduceIte, not_true_eq_false, not_false_eq_true, Int.reduceEq, Int.reduceNe, Int.reduceLT, Int.reduceLE, Int.reduceAdd, Int.reduceSub, Int.reduceMul, Int.reduceNeg, Nat.reduceAdd, Nat.reduceLeDiff, Nat.reduceEqDiff, ne_eq, List.length_cons, List.length_nil, Nat.reduceSub, ite10_0, ite10_1, ite10_01, Classical.not_not, a4, a5, c3_ge]
        by_cases hlt : offF V F b < q.2
        · rw [if_neg (by omega)]
          refine hQ _ (((a1.hs (c := 45) (j := 2) rfl).hs (c := 45) (j := 3) rfl).hs (c := 45) (j := 4) rfl) ?_ a3
          show nbH _ (if offF V F b < q.2 then some (b, offF V F b) else some q)
          rw [if_pos hlt]
          exact ⟨rfl, rfl, rfl⟩
        · rw [if_pos (by omega)]
          refine hQ _ a1 ?_ a3
          show nbH _ (if offF V F b < q.2 then some (b, offF V F b) else some q)
          rw [if_neg hlt]
          exact ⟨a4, a5, a6⟩
    by_cases hg : goodF V F b = true
    · rw [if_pos hg] at key ⊢
      simp only [k_NE_weigh_4, rr, sh, Nat.reduceLT, Nat.reduceMul, Int.reduceToNat, Int.reduceGT, Int.reduceGE, Int.reduceNe, true_and, and_true, true_or, or_true, false_or, or_false, and_self, or_self, if_true, if_false, reduceIte, not_true_eq_false, not_false_eq_true, Int.reduceEq, Int.reduceNe, Int.reduceLT, Int.reduceLE, Int.reduceAdd, Int.reduceSub, Int.reduceMul, Int.reduceNeg, Nat.reduceAdd, Nat.reduceLeDiff, Nat.reduceEqDiff, ne_eq, List.length_cons, List.length_nil, Nat.reduceSub, ite10_0, ite10_1, ite10_01, Classical.not_not, hc, w1] <;> clear w1
      refine key _ (Fx.rf.hs (c := 45) (j := 5) rfl) ?_ hs_same
      cases o with
      | none => exact ho
      | some q => exact ho
    · rw [if_neg hg] at key ⊢
      simp only [k_NE_weigh_4, rr, sh, Nat.reduceLT, Nat.reduceMul, Int.reduceToNat, Int.reduceGT, Int.reduceGE, Int.reduceNe, true_and, and_true, true_or, or_true, false_or, or_false, and_self, or_self, if_true, if_false, reduceIte, not_true_eq_false, not_false_eq_true, Int.reduceEq, Int.reduceNe, Int.reduceLT, Int.reduceLE, Int.reduceAdd, Int.reduceSub, Int.reduceMul, Int.reduceNeg, Nat.reduceAdd, Nat.reduceLeDiff, Nat.reduceEqDiff, ne_eq, List.length_cons, List.length_nil, Nat.reduceSub, ite10_0, ite10_1, ite10_01, Classical.not_not]
      exact key H Fx.rf ho (by rw [hc]; omega)
  refine up_nat (P := fun k => ∀ z, R (d + 1) NE_weigh (blk NE_weigh 1) [va 45, va 42, vi (V 99 1), vi b, vl (w64 (sumI (fun i => gapF V F (wpw V i) b) k)), vu, vi (if decide (∀ i : Nat, i < k → gapF V F (wpw V i) b ≤ V 99 1) = true then 1 else 0), vi k, z, vu] [] H Q) ?_ ?_ 0 (Nat.zero_le (wcn V 4)) vu
  · intro z
    have e1 : w64 (sumI (fun i => gapF V F (wpw V i) b) (wcn V 4)) = offF V F b := by
      unfold offF
      rw [wsum V (fun q => gapF V F q b) 4 (Nat.le_refl 4)]
    have e2 : decide (∀ i : Nat, i < wcn V 4 → gapF V F (wpw V i) b ≤ V 99 1) = goodF V F b := by
      unfold goodF
      exact decide_eq_decide.mpr (wall V (fun q => gapF V F q b ≤ V 99 1) 4 (Nat.le_refl 4))
    rw [e_NE_weigh_1, e1, e2]
    have f := hH.f hI.ptr
    simp only [k_NE_weigh_1, e_NE_weigh_4, rr, sh, Nat.reduceLT, Nat.reduceMul, Int.reduceToNat, Int.reduceGT, Int.reduceGE, Int.reduceNe, true_and, and_true, true_or, or_true, false_or, or_false, and_self, or_self, if_true, if_false, reduceIte, not_true_eq_false, not_false_eq_true, Int.reduceEq, Int.reduceNe, Int.reduceLT, Int.reduceLE, Int.reduceAdd, Int.reduceSub, Int.reduceMul, Int.reduceNeg, Nat.reduceAdd, Nat.reduceLeDiff, Nat.reduceEqDiff, ne_eq, List.length_cons, List.length_nil, Nat.reduceSub, f, l1, Int.le_refl]
    exact tail z
  · intro k hk ih z
    have c1 : ¬ (wcn V 4 : Int) ≤ k := by omega
    have hw := wcn_le V 4
    have e1 := l3 k hk
    have hd : decide (∀ i : Nat, i < k + 1 → gapF V F (wpw V i) b ≤ V 99 1) = (decide (∀ i : Nat, i < k → gapF V F (wpw V i) b ≤ V 99 1) && decide (gapF V F (wpw V k) b ≤ V 99 1)) := by
      rw [← Bool.decide_and]
      exact decide_eq_decide.mpr ⟨fun h => ⟨fun i hi => h i (by omega), h k (by omega)⟩, fun h i hi => by rcases Nat.lt_or_ge i k with h1 | h1; exact h.1 i h1; rw [show i = k by omega]; exact h.2⟩
    rw [hd] at ih
    have hs1 : w64 (w64 (sumI (fun i => gapF V F (wpw V i) b) k) + gapF V F (wpw V k) b) = w64 (sumI (fun i => gapF V F (wpw V i) b) (k + 1)) := by rw [w64_al]; rfl
    generalize decide (∀ i : Nat, i < k → gapF V F (wpw V i) b ≤ V 99 1) = B at ih ⊢
    rw [e_NE_weigh_1]
    have f := hH.f hI.ptr; have g := pl_f hH hI.pp hI.ptr; simp only [k_NE_weigh_1, e_NE_weigh_2, k_NE_weigh_2, e_NE_weigh_3, k_NE_weigh_3, rr, sh, Nat.reduceLT, Nat.reduceMul, Int.reduceToNat, Int.reduceGT, Int.reduceGE, Int.reduceNe, true_and, and_true, true_or, or_true, false_or, or_false, and_self, or_self, if_true, if_false, reduceIte, not_true_eq_false, not_false_eq_true, Int.reduceEq, Int.reduceNe, Int.reduceLT, Int.reduceLE, Int.reduceAdd, Int.reduceSub, Int.reduceMul, Int.reduceNeg, Nat.reduceAdd, Nat.reduceLeDiff, Nat.reduceEqDiff, ne_eq, List.length_cons, List.length_nil, Nat.reduceSub, ite10_0, ite10_1, ite10_01, Classical.not_not, f, g, l1, c1, e1, q_absL, lnv_gap, c3_gt, w32_s (show k < 2147483647 by omega)] <;> clear f g e1
    clear ho hc hd l3 l4 tail hQ
    repeat (refine And.intro (by omega) ?_)
    rw [hs1]
    cases B with
    | false =>
      simp only [Bool.false_eq_true, if_false, if_true, not_true_eq_false, not_false_eq_true, Bool.false_and] at ih ⊢
      repeat (refine And.intro (by omega) ?_)
      exact ih _
    | true =>
      by_cases hg : gapF V F (wpw V k) b ≤ V 99 1
      · simp only [hg, decide_true, Bool.and_true, if_true, not_true_eq_false, not_false_eq_true, if_false] at ih ⊢
        rw [if_neg (by omega)]
        repeat (refine And.intro (by omega) ?_)
        exact ih _
      · simp only [hg, decide_false, Bool.and_false, if_true, Bool.false_eq_true, if_false, not_true_eq_false, not_false_eq_true] at ih ⊢
        rw [if_pos (by omega)]
        repeat (refine And.intro (by omega) ?_)
        exact ih _
theorem one_shl {n : Nat} (h : n ≤ 12) : b_shl 1 n = ((2 ^ n : Nat) : Int) := by
  have h2 : 2 ^ n ≤ 2 ^ 12 := Nat.pow_le_pow_right (by decide) h
  have := b_shl_nat (a := 1) (k := n) (by omega) (by omega)
  rw [Nat.one_mul] at this
  exact this
set_option maxRecDepth 20000 in
theorem c_scan (hI : Inq V) (hH : Vw V H) {F : Nat → Int} (hF : ∀ k : Nat, k < nS V → H 47 k = F k)
    (hQ : ∀ H', Fx sNE H H' → nbH H' (nbF (lawB V) (offF V F) (2 ^ nS V)) → H' 45 5 = cntF (fun b => lawB V b && goodF V F b) (2 ^ nS V) → Q vu H') : CC (d + 4) NE_scan [va 45, va (V 4 0), va 42] H Q := by
  have hn := hI.boat.s
  have h1 := hI.plan.seats
  have hne := hI.plan.near
  have h2 : 2 ^ nS V ≤ 4096 := Nat.pow_le_pow_right (by decide) hn.2
  have e0 := one_shl hn.2
  have hsh : shc (V 4 0) = 5 := by rcases hI.pp with h | h <;> rw [h] <;> rfl
  have f := hH.f hI.ptr; have g := pl_f hH hI.pp hI.ptr; simp only [en_NE_scan, e_NE_scan_0, k_NE_scan_0, rr, sh, Nat.reduceLT, Nat.reduceMul, Int.reduceToNat, Int.reduceGT, Int.reduceGE, Int.reduceNe, true_and, and_true, true_or, or_true, false_or, or_false, and_self, or_self, if_true, if_false, reduceIte, not_true_eq_false, not_false_eq_true, Int.reduceEq, Int.reduceNe, Int.reduceLT, Int.reduceLE, Int.reduceAdd, Int.reduceSub, Int.reduceMul, Int.reduceNeg, Nat.reduceAdd, Nat.reduceLeDiff, Nat.reduceEqDiff, ne_eq, List.length_cons, List.length_nil, Nat.reduceSub, ite10_0, ite10_1, ite10_01, Classical.not_not, f, g] <;> clear f g
  repeat (refine And.intro (by omega) ?_)
  refine c_setLanesN hI hH hF fun H1 b1 b2 => ?_
  have hV0 := hH
  have hH := hV0.fx b1 sNE_scr
  have hp45 : V 4 0 ≠ 45 := by rcases hI.pp with h | h <;> rw [h] <;> decide
  have e1 : hs (hs H1 45 2 0) 45 5 0 (V 4 0) 0 = nS V := by rw [hs_ne hp45, hs_ne hp45, (pl_f hH hI.pp hI.ptr).2.1]; exact h1
  rw [e1, e0]
  refine up_nat (P := fun m => ∀ H', Fx sNE H H' → LaneS H' (nS V) (wcn V 4) (ngW V F) (ngE V) (m - 1) → nbH H' (nbF (lawB V) (offF V F) m) → H' 45 5 = cntF (fun b => lawB V b && goodF V F b) m → R (d + 4) NE_scan (blk NE_scan 1) [va 45, va (V 4 0), va 42, vi ((2 ^ nS V : Nat) : Int), vi m] [] H' Q) ?_ ?_ 0 (Nat.zero_le (2 ^ nS V)) _ ((b1.hs (c := 45) (j := 2) rfl).hs (c := 45) (j := 5) rfl) ((b2.hs (by decide) (by decide) (by decide)).hs (by decide) (by decide) (by decide)) rfl rfl
  · intro H' a1 a2 a3 a4
    rw [e_NE_scan_1]
    simp only [k_NE_scan_1, en_NE_scan, e_NE_scan_0, k_NE_scan_0, e_NE_scan_2, k_NE_scan_2, e_NE_scan_3, k_NE_scan_3, e_NE_scan_4, k_NE_scan_4, rr, sh, Nat.reduceLT, Nat.reduceMul, Int.reduceToNat, Int.reduceGT, Int.reduceGE, Int.reduceNe, true_and, and_true, true_or, or_true, false_or, or_false, and_self, or_self, if_true, if_false, reduceIte, not_true_eq_false, not_false_eq_true, Int.reduceEq, Int.reduceNe, Int.reduceLT, Int.reduceLE, Int.reduceAdd, Int.reduceSub, Int.reduceMul, Int.reduceNeg, Nat.reduceAdd, Nat.reduceLeDiff, Nat.reduceEqDiff, ne_eq, List.length_cons, List.length_nil, Nat.reduceSub, ite10_0, ite10_1, ite10_01, Classical.not_not, Int.le_refl]
    exact hQ H' a1 a3 a4
  · intro m hm ih H' a1 a2 a3 a4
    have hH := hV0.fx a1 sNE_scr
    have c1 : ¬ ((2 ^ nS V : Nat) : Int) ≤ m := by omega
    have hm4 : m < 4096 := by omega
    have hcr := cntF_rng (fun b => lawB V b && goodF V F b) m
    have rest : ∀ H2, Fx sNE H H2 → LaneS H2 (nS V) (wcn V 4) (ngW V F) (ngE V) m → nbH H2 (nbF (lawB V) (offF V F) m) → H2 45 5 = cntF (fun b => lawB V b && goodF V F b) m → R (d + 4) NE_scan (blk NE_scan 2) [va 45, va (V 4 0), va 42, vi ((2 ^ nS V : Nat) : Int), vi m] [] H2 Q := by
      intro H2 g1 g2 g3 g4
      have hH := hV0.fx g1 sNE_scr
      have eo : nbF (lawB V) (offF V F) (m + 1) = if lawB V m = true then updO (nbF (lawB V) (offF V F) m) m (offF V F m) else nbF (lawB V) (offF V F) m := rfl
      have eg : cntF (fun b => lawB V b && goodF V F b) (m + 1) = cntF (fun b => lawB V b && goodF V F b) m + if (lawB V m && goodF V F m) = true then 1 else 0 := rfl
      have f := hH.f hI.ptr; have g := pl_f hH hI.pp hI.ptr; simp only [e_NE_scan_2, k_NE_scan_2, e_NE_scan_3, k_NE_scan_3, rr, sh, Nat.reduceLT, Nat.reduceMul, Int.reduceToNat, Int.reduceGT, Int.reduceGE, Int.reduceNe, true_and, and_true, true_or, or_true, false_or, or_false, and_self, or_self, if_true, if_false, reduceIte, not_true_eq_false, not_false_eq_true, Int.reduceEq, Int.reduceNe, Int.reduceLT, Int.reduceLE, Int.reduceAdd, Int.reduceSub, Int.reduceMul, Int.reduceNeg, Nat.reduceAdd, Nat.reduceLeDiff, Nat.reduceEqDiff, ne_eq, List.length_cons, List.length_nil, Nat.reduceSub, ite10_0, ite10_1, ite10_01, Classical.not_not, f, g, hsh, hne, q_allows hI hH hm4, w32_s (show m < 2147483647 by omega)] <;> clear f g
      by_cases hl : lawB V m = true
      · rw [if_pos hl] at eo
        rw [hl, Bool.true_and] at eg
        rw [if_neg (fun q => q hl)]
        repeat (refine And.intro (by omega) ?_)
        refine c_weigh hI hH g2 g3 g4 ⟨hcr.1, by omega⟩ fun H3 i1 i2 i3 => ?_
        refine ih H3 (g1.tr (i1.up s45_NE)) ?_ (by rw [eo]; exact i2) (by rw [eg]; exact i3)
        rw [Nat.add_sub_cancel]
        exact g2.fr (i1.cell 42 (fun _ => rfl)) (i1.cell 43 (fun _ => rfl)) (i1.cell 44 (fun _ => rfl))
      · rw [if_neg hl] at eo
        have hl2 : lawB V m = false := by simpa using hl
        rw [hl2, Bool.false_and, if_neg (by decide), Int.add_zero] at eg
        rw [if_pos hl]
        repeat (refine And.intro (by omega) ?_)
        exact ih H2 g1 (by rw [Nat.add_sub_cancel]; exact g2) (by rw [eo]; exact g3) (by rw [eg]; exact g4)
    rw [e_NE_scan_1]
    by_cases h0 : m = 0
    · subst h0
      have z0 : ((0 : Nat) : Int) ≤ 0 := Int.le_refl 0
      have f := hH.f hI.ptr; have g := pl_f hH hI.pp hI.ptr; simp only [k_NE_scan_1, rr, sh, Nat.reduceLT, Nat.reduceMul, Int.reduceToNat, Int.reduceGT, Int.reduceGE, Int.reduceNe, true_and, and_true, true_or, or_true, false_or, or_false, and_self, or_self, if_true, if_false, reduceIte, not_true_eq_false, not_false_eq_true, Int.reduceEq, Int.reduceNe, Int.reduceLT, Int.reduceLE, Int.reduceAdd, Int.reduceSub, Int.reduceMul, Int.reduceNeg, Nat.reduceAdd, Nat.reduceLeDiff, Nat.reduceEqDiff, ne_eq, List.length_cons, List.length_nil, Nat.reduceSub, ite10_0, ite10_1, ite10_01, Classical.not_not, f, g, c1, z0] <;> clear f g
      exact rest H' a1 a2 a3 a4
    · have c2 : ¬ (m : Int) ≤ 0 := by omega
      have f := hH.f hI.ptr; have g := pl_f hH hI.pp hI.ptr; simp only [k_NE_scan_1, rr, sh, Nat.reduceLT, Nat.reduceMul, Int.reduceToNat, Int.reduceGT, Int.reduceGE, Int.reduceNe, true_and, and_true, true_or, or_true, false_or, or_false, and_self, or_self, if_true, if_false, reduceIte, not_true_eq_false, not_false_eq_true, Int.reduceEq, Int.reduceNe, Int.reduceLT, Int.reduceLE, Int.reduceAdd, Int.reduceSub, Int.reduceMul, Int.reduceNeg, Nat.reduceAdd, Nat.reduceLeDiff, Nat.reduceEqDiff, ne_eq, List.length_cons, List.length_nil, Nat.reduceSub, ite10_0, ite10_1, ite10_01, Classical.not_not, f, g, c1, c2] <;> clear f g
      repeat (refine And.intro (by omega) ?_)
      refine c_advance hI.ptr hH hn.2 h0 hm a2 fun H3 i1 i2 => ?_
      refine rest H3 (a1.tr (i1.up sLN_NE)) i2 ?_ ?_
      · have : H3 45 = H' 45 := i1.cell 45 (fun _ => rfl)
        unfold nbH
        rw [this]
        exact a3
      · rw [show H3 45 = H' 45 from i1.cell 45 (fun _ => rfl)]; exact a4
set_option maxRecDepth 20000 in
theorem c_findAs (hI : Inq V) (hH : Vw V H) (hQ : ∀ H', Vw V H' → nbH H' (nbF (lawB V) (fun b => offV V b (V 71 47)) (2 ^ nS V)) → H' 45 5 = cntF (fun b => lawB V b && goodB V b (V 71 47)) (2 ^ nS V) → Q (vi (if (nbF (lawB V) (fun b => offV V b (V 71 47)) (2 ^ nS V)).isSome = true then 1 else 0)) H') : CC (d + 5) NE_findAsTheySit [va 45, va 4, va 42] H Q := by
  have hn := hI.boat.s
  have ht := hI.crew.stroke
  have hst := hI.cc.stroke
  have f := hH.f hI.ptr; have g := pl_f hH hI.pp hI.ptr; simp only [en_NE_findAsTheySit, e_NE_findAsTheySit_0, k_NE_findAsTheySit_0, rr, sh, Nat.reduceLT, Nat.reduceMul, Int.reduceToNat, Int.reduceGT, Int.reduceGE, Int.reduceNe, true_and, and_true, true_or, or_true, false_or, or_false, and_self, or_self, if_true, if_false, reduceIte, not_true_eq_false, not_false_eq_true, Int.reduceEq, Int.reduceNe, Int.reduceLT, Int.reduceLE, Int.reduceAdd, Int.reduceSub, Int.reduceMul, Int.reduceNeg, Nat.reduceAdd, Nat.reduceLeDiff, Nat.reduceEqDiff, ne_eq, List.length_cons, List.length_nil, Nat.reduceSub, ite10_0, ite10_1, ite10_01, Classical.not_not, f, g] <;> clear f g
  repeat (refine And.intro (by omega) ?_)
  refine up_nat (P := fun k => ∀ H', Vw V H' → (∀ j : Nat, j < k → j < nS V → H' 47 j = frc V j (V 71 47)) → R (d + 5) NE_findAsTheySit (blk NE_findAsTheySit 1) [va 45, va 4, va 42, vi k] [] H' Q) ?_ ?_ 0 (Nat.zero_le 12) H hH (fun j hj => absurd hj (Nat.not_lt_zero j))
  · intro H' hH a2
    rw [e_NE_findAsTheySit_1]
    have f := hH.f hI.ptr; have g := pl_f hH hI.pp hI.ptr; simp only [k_NE_findAsTheySit_1, e_NE_findAsTheySit_2, k_NE_findAsTheySit_2, rr, sh, Nat.reduceLT, Nat.reduceMul, Int.reduceToNat, Int.reduceGT, Int.reduceGE, Int.reduceNe, true_and, and_true, true_or, or_true, false_or, or_false, and_self, or_self, if_true, if_false, reduceIte, not_true_eq_false, not_false_eq_true, Int.reduceEq, Int.reduceNe, Int.reduceLT, Int.reduceLE, Int.reduceAdd, Int.reduceSub, Int.reduceMul, Int.reduceNeg, Nat.reduceAdd, Nat.reduceLeDiff, Nat.reduceEqDiff, ne_eq, List.length_cons, List.length_nil, Nat.reduceSub, ite10_0, ite10_1, ite10_01, Classical.not_not, f, g, Int.le_refl] <;> clear f g
    repeat (refine And.intro (by omega) ?_)
    refine c_scan hI hH (F := fun k => frc V k (V 71 47)) (fun k hk => a2 k (by omega) hk) fun H1 b1 b2 b3 => ?_
    have hH := hH.fx b1 sNE_scr
    have hq := hQ H1 hH b2 b3
    cases ho : nbF (lawB V) (offF V (fun k => frc V k (V 71 47))) (2 ^ nS V) with
    | none =>
      rw [ho] at b2
      have ho2 : nbF (lawB V) (fun b => offV V b (V 71 47)) (2 ^ nS V) = none := ho
      rw [ho2] at hq
      have b2 : H1 45 2 = 0 := b2
      rw [b2]
      exact ⟨Or.inl rfl, hq⟩
    | some q =>
      rw [ho] at b2
      have ho2 : nbF (lawB V) (fun b => offV V b (V 71 47)) (2 ^ nS V) = some q := ho
      rw [ho2] at hq
      obtain ⟨b2, -⟩ := b2
      rw [b2]
      exact ⟨Or.inr rfl, hq⟩
  · intro k hk ih H' hH a2
    have c1 : ¬ (12 : Int) ≤ k := by omega
    rw [e_NE_findAsTheySit_1]
    by_cases hks : k < nS V
    · have tx : V 71 47 ≤ 100000 := by omega
      have f := hH.f hI.ptr; have g := pl_f hH hI.pp hI.ptr; simp only [k_NE_findAsTheySit_1, e_NE_findAsTheySit_2, k_NE_findAsTheySit_2, rr, sh, Nat.reduceLT, Nat.reduceMul, Int.reduceToNat, Int.reduceGT, Int.reduceGE, Int.reduceNe, true_and, and_true, true_or, or_true, false_or, or_false, and_self, or_self, if_true, if_false, reduceIte, not_true_eq_false, not_false_eq_true, Int.reduceEq, Int.reduceNe, Int.reduceLT, Int.reduceLE, Int.reduceAdd, Int.reduceSub, Int.reduceMul, Int.reduceNeg, Nat.reduceAdd, Nat.reduceLeDiff, Nat.reduceEqDiff, ne_eq, List.length_cons, List.length_nil, Nat.reduceSub, ite10_0, ite10_1, ite10_01, Classical.not_not, f, g, c1, hst, q_forceIn hI hH hks ht.1 tx, w32_s (show k < 2147483647 by omega)] <;> clear f g
      repeat (refine And.intro (by omega) ?_)
      refine ih _ (hH.hs (c := 47) (j := (k : Int)) rfl) ?_
      intro j hj hjs
      rw [hs_app]
      by_cases h : j = k
      · rw [if_pos ⟨rfl, by omega⟩, h]
      · rw [if_neg (by omega)]; exact a2 j (by omega) hjs
    · have e1 : ∀ {d : Nat} {Q : AV → Hp → Prop}, CC (d + 1) CW_forceIn [va 4, vi k, vi (V 71 47)] H' Q = Q (vi 0) H' := by
        intro d Q
        have h1 := hI.plan.seats
        have c2 : ¬ (0 ≤ (k : Int) ∧ (k : Int) < nS V) := by omega
        have f := hH.f hI.ptr; have g := pl_f hH hI.pp hI.ptr; simp only [en_CW_forceIn, e_CW_forceIn_0, k_CW_forceIn_0, e_CW_forceIn_1, k_CW_forceIn_1, e_CW_forceIn_2, k_CW_forceIn_2, rr, sh, Nat.reduceLT, Nat.reduceMul, Int.reduceToNat, Int.reduceGT, Int.reduceGE, Int.reduceNe, true_and, and_true, true_or, or_true, false_or, or_false, and_self, or_self, if_true, if_false, reduceIte, not_true_eq_false, not_false_eq_true, Int.reduceEq, Int.reduceNe, Int.reduceLT, Int.reduceLE, Int.reduceAdd, Int.reduceSub, Int.reduceMul, Int.reduceNeg, Nat.reduceAdd, Nat.reduceLeDiff, Nat.reduceEqDiff, ne_eq, List.length_cons, List.length_nil, Nat.reduceSub, ite10_0, ite10_1, ite10_01, Classical.not_not, f, g, q_isSeat, h1, c2] <;> clear f g
      have f := hH.f hI.ptr; have g := pl_f hH hI.pp hI.ptr; simp only [k_NE_findAsTheySit_1, e_NE_findAsTheySit_2, k_NE_findAsTheySit_2, rr, sh, Nat.reduceLT, Nat.reduceMul, Int.reduceToNat, Int.reduceGT, Int.reduceGE, Int.reduceNe, true_and, and_true, true_or, or_true, false_or, or_false, and_self, or_self, if_true, if_false, reduceIte, not_true_eq_false, not_false_eq_true, Int.reduceEq, Int.reduceNe, Int.reduceLT, Int.reduceLE, Int.reduceAdd, Int.reduceSub, Int.reduceMul, Int.reduceNeg, Nat.reduceAdd, Nat.reduceLeDiff, Nat.reduceEqDiff, ne_eq, List.length_cons, List.length_nil, Nat.reduceSub, ite10_0, ite10_1, ite10_01, Classical.not_not, f, g, c1, hst, e1, w32_s (show k < 2147483647 by omega)] <;> clear f g e1
      repeat (refine And.intro (by omega) ?_)
      refine ih _ (hH.hs (c := 47) (j := (k : Int)) rfl) ?_
      intro j hj hjs
      rw [hs_app, if_neg (by omega)]
      exact a2 j (by omega) hjs
end NE
