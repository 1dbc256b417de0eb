/-! seated: the class -/
theorem best_arr0 {V : Hp} (h : nS V = 0) : bestS V = arrF (nS V) (updS V) (tkD (nS V)) (nS V) 0 0 none := by
  have e1 : bestS V = leafS V 0 none := by unfold bestS; rw [h]; rfl
  have e2 : leafS V 0 none = updS V 0 none := by
    unfold leafS
    rw [h]
    exact if_pos (by decide)
  rw [e1, e2, h]
  rfl
def StC (V H : Hp) : Option (Nat × Nat × Int) → Prop
  | none => H 45 8 = 0
  | some s => H 45 8 = 1 ∧ H 45 9 = s.2.2 ∧ H 45 10 = s.2.1 ∧ ∀ k : Nat, k < nS V → H 49 k = dgt (nS V) (nS V) s.1 k
theorem StC.fr {V H H' : Hp} {st : Option (Nat × Nat × Int)} (h : StC V H st) (e8 : H' 45 8 = H 45 8) (e9 : H' 45 9 = H 45 9) (e10 : H' 45 10 = H 45 10) (e49 : H' 49 = H 49) : StC V H' st := by
  cases st with
  | none => show H' 45 8 = 0; rw [e8]; exact h
  | some s =>
    obtain ⟨h1, h2, h3, h4⟩ := h
    exact ⟨by rw [e8]; exact h1, by rw [e9]; exact h2, by rw [e10]; exact h3, fun k hk => by rw [e49]; exact h4 k hk⟩
def sAR (a b : Int) : Bool := if a = 49 then true else if a = 48 then true else if a = 47 then true else if a = 45 then (decide (b = 8) || decide (b = 9) || decide (b = 10)) else false
section SC
variable {V : Hp}
set_option maxRecDepth 20000 in
theorem c_keepOrder (hI : Inq V) {d : Nat} {H : Hp} {Q : AV → Hp → Prop} (hH : Vw V H) (hn5 : nS V ≤ 5) {p : Nat} {q : Nat × Int} (h3 : H 45 3 = q.2) (h4 : H 45 4 = q.1) (ho : ∀ k : Nat, k < nS V → H 48 k = dgt (nS V) (nS V) p k) (hQ : ∀ H', Vw V H' → (∀ k : Int, H' 48 k = H 48 k) → (∀ k : Int, H' 47 k = H 47 k) → StC V H' (some (p, q.1, q.2)) → Q vu H') : CC d NE_keepOrder [va 45] H Q := by
  have p6 : H 45 6 = 48 := (hH 45 6 rfl).trans (hI.ptr (45, 6, 48) (by decide +kernel))
  have p7 : H 45 7 = 49 := (hH 45 7 rfl).trans (hI.ptr (45, 7, 49) (by decide +kernel))
  have y3 : ∀ v, hs H 45 8 v 45 3 = q.2 := fun v => (hs2 (by decide)).trans h3
  have y4 : ∀ v w, hs (hs H 45 8 v) 45 9 w 45 4 = q.1 := fun v w => ((hs2 (by decide)).trans (hs2 (by decide))).trans h4
  have y6 : ∀ u v w, hs (hs (hs H 45 8 u) 45 9 v) 45 10 w 45 6 = 48 := fun u v w => (((hs2 (by decide)).trans (hs2 (by decide))).trans (hs2 (by decide))).trans p6
  have y7 : ∀ u v w, hs (hs (hs H 45 8 u) 45 9 v) 45 10 w 45 7 = 49 := fun u v w => (((hs2 (by decide)).trans (hs2 (by decide))).trans (hs2 (by decide))).trans p7
  simp only [en_NE_keepOrder, e_NE_keepOrder_0, k_NE_keepOrder_0, rr, sh, Nat.reduceLT, Nat.reduceMul, Int.reduceToNat, Int.reduceGT, Int.reduceGE, Int.reduceNe, true_and, and_true, true_or, or_true, false_or, or_false, and_self, or_self, if_true, if_false, reduceIte, not_true_eq_false, not_false_eq_true, Int.reduceEq, Int.reduceNe, Int.reduceLT, Int.reduceLE, Int.reduceAdd, Int.reduceSub, Int.reduceMul, Int.reduceNeg, Nat.reduceAdd, Nat.reduceLeDiff, Nat.reduceEqDiff, ne_eq, List.length_cons, List.length_nil, Nat.reduceSub, y3, y4, y6, y7]
  refine hQ _ ?_ (fun k => ?_) (fun k => ?_) ⟨?_, ?_, ?_, fun k hk => ?_⟩
  · intro a b hs'
    have h1 : ¬ (a = 49 ∧ 0 ≤ b ∧ b < 5) := fun z => by rw [z.1] at hs'; cases hs'
    show (if a = 49 ∧ 0 ≤ b ∧ b < 5 then _ else _) = _
    rw [if_neg h1]
    exact (((hH.hs (c := 45) (j := 8) rfl).hs (c := 45) (j := 9) rfl).hs (c := 45) (j := 10) rfl) a b hs'
  · show (if (48 : Int) = 49 ∧ _ then _ else _) = _
    rw [if_neg (fun z => absurd z.1 (by decide)), hs_ne' (by decide), hs_ne' (by decide), hs_ne' (by decide)]
  · show (if (47 : Int) = 49 ∧ _ then _ else _) = _
    rw [if_neg (fun z => absurd z.1 (by decide)), hs_ne' (by decide), hs_ne' (by decide), hs_ne' (by decide)]
  · show (if (45 : Int) = 49 ∧ _ then _ else _) = _
    rw [if_neg (fun z => absurd z.1 (by decide)), hs2 (by decide), hs2 (by decide)]; exact hs_same
  · show (if (45 : Int) = 49 ∧ _ then _ else _) = _
    rw [if_neg (fun z => absurd z.1 (by decide)), hs2 (by decide)]; exact hs_same
  · show (if (45 : Int) = 49 ∧ _ then _ else _) = _
    rw [if_neg (fun z => absurd z.1 (by decide))]; exact hs_same
  · have h1 : (49 : Int) = 49 ∧ 0 ≤ (k : Int) ∧ (k : Int) < 5 := ⟨rfl, by omega, by omega⟩
    show (if (49 : Int) = 49 ∧ _ then _ else _) = _
    rw [if_pos h1, show (0 : Int) + ((k : Int) - 0) = k by omega, hs_ne' (by decide), hs_ne' (by decide), hs_ne' (by decide)]
    exact ho k hk
theorem updS_none {m : Nat} {st : Option (Nat × Nat × Int)} (h : ordV V m = none) : updS V m st = st := by unfold updS; rw [h]
theorem updS_some {m : Nat} {st : Option (Nat × Nat × Int)} {q : Nat × Int} (h : ordV V m = some q) : updS V m st = (match st with
    | none => some (m, q.1, q.2)
    | some s => if q.2 < s.2.2 then some (m, q.1, q.2) else some s) := by unfold updS; rw [h]; cases st <;> rfl
set_option maxRecDepth 20000 in
theorem c_arrange (hI : Inq V) (hnr : nS V = nR V) (hn5 : nS V ≤ 5) : ∀ (j w p : Nat) {d T : Nat} {H : Hp} {st : Option (Nat × Nat × Int)} {Q : AV → Hp → Prop}, w + j = nS V → T < 32 → (∀ r : Nat, r < nS V → T.testBit r = tkD (nS V) w p r) → Vw V H → (∀ k : Nat, k < w → H 48 k = dgt (nS V) w p k ∧ H 47 k = stg V ((dgt (nS V) w p k : Nat) : Int) (V 71 47)) → StC V H st → (∀ H', Vw V H' → (∀ k : Nat, k < w → H' 48 k = H 48 k ∧ H' 47 k = H 47 k) → StC V H' (arrF (nS V) (updS V) (tkD (nS V)) j w p st) → Q vu H') → CC (d + j + 5) NE_arrange [va 45, va 4, va 42, vi w, vi T] H Q
  | 0, w, p, d, T, H, st, Q, hw, hT, hbit, hH, ho, hst, hQ => by
    have hwn : w = nS V := hw
    have h0 := hI.plan.seats
    have z1 := shp hI
    have e40 : H 4 0 = V 4 0 := hH 4 0 rfl
    have ep0 : H (V 4 0) 0 = nS V := by rw [← h0]; refine hH _ _ ?_; rcases hI.pp with e | e <;> rw [e] <;> rfl
    have c1 : (nS V : Int) ≤ w := by rw [hwn]; exact Int.le_refl _
    simp only [en_NE_arrange, e_NE_arrange_0, k_NE_arrange_0, e_NE_arrange_1, k_NE_arrange_1, rr, sh, Nat.reduceLT, Nat.reduceMul, Int.reduceToNat, Int.reduceGT, Int.reduceGE, Int.reduceNe, true_and, and_true, true_or, or_true, false_or, or_false, and_self, or_self, if_true, if_false, reduceIte, not_true_eq_false, not_false_eq_true, Int.reduceEq, Int.reduceNe, Int.reduceLT, Int.reduceLE, Int.reduceAdd, Int.reduceSub, Int.reduceMul, Int.reduceNeg, Nat.reduceAdd, Nat.reduceLeDiff, Nat.reduceEqDiff, ne_eq, List.length_cons, List.length_nil, Nat.reduceSub, e40, z1, ep0, c1]
    refine c_scan (d := d) hI hH (F := ordF V p) (fun k hk => ?_) fun H1 b1 b2 b3 => ?_
    · have := (ho k (by rw [hwn]; exact hk)).2
      rw [hwn] at this
      exact this
    · have hH1 := hH.fx b1 sNE_scr
      have e48 : H1 48 = H 48 := b1.cell 48 (fun _ => rfl)
      have e47 : H1 47 = H 47 := b1.cell 47 (fun _ => rfl)
      have e49 : H1 49 = H 49 := b1.cell 49 (fun _ => rfl)
      have e8 : H1 45 8 = H 45 8 := b1 45 8 rfl
      have e9 : H1 45 9 = H 45 9 := b1 45 9 rfl
      have e10 : H1 45 10 = H 45 10 := b1 45 10 rfl
      have hst1 : StC V H1 st := hst.fr e8 e9 e10 e49
      have ho1 : ∀ k : Nat, k < nS V → H1 48 k = dgt (nS V) (nS V) p k := fun k hk => by
        have := (ho k (by rw [hwn]; exact hk)).1
        rw [hwn] at this
        rw [e48]; exact this
      have hval : nbF (lawB V) (offF V (ordF V p)) (2 ^ nS V) = ordV V p := rfl
      rw [hval] at b2
      have hsame : ∀ k : Nat, k < w → H1 48 k = H 48 k ∧ H1 47 k = H 47 k := fun k _ => by rw [e48, e47]; exact ⟨rfl, rfl⟩
      have hQ : ∀ H', Vw V H' → (∀ k : Nat, k < w → H' 48 k = H 48 k ∧ H' 47 k = H 47 k) → StC V H' (updS V p st) → Q vu H' := hQ
      cases hv : ordV V p with
      | none =>
        rw [hv] at b2
        have b2 : H1 45 2 = 0 := b2
        rw [updS_none hv] at hQ
        simp only [e_NE_arrange_3, k_NE_arrange_3, rr, sh, Nat.reduceLT, Nat.reduceMul, Int.reduceToNat, Int.reduceGT, Int.reduceGE, Int.reduceNe, true_and, and_true, true_or, or_true, false_or, or_false, and_self, or_self, if_true, if_false, reduceIte, not_true_eq_false, not_false_eq_true, Int.reduceEq, Int.reduceNe, Int.reduceLT, Int.reduceLE, Int.reduceAdd, Int.reduceSub, Int.reduceMul, Int.reduceNeg, Nat.reduceAdd, Nat.reduceLeDiff, Nat.reduceEqDiff, ne_eq, List.length_cons, List.length_nil, Nat.reduceSub, b2]
        exact hQ H1 hH1 hsame hst1
      | some q =>
        rw [hv] at b2
        obtain ⟨b21, b22, b23⟩ := b2
        rw [updS_some hv] at hQ
        cases st with
        | none =>
          have s8 : H1 45 8 = 0 := hst1
          simp only [e_NE_arrange_2, k_NE_arrange_2, e_NE_arrange_3, k_NE_arrange_3, rr, sh, Nat.reduceLT, Nat.reduceMul, Int.reduceToNat, Int.reduceGT, Int.reduceGE, Int.reduceNe, true_and, and_true, true_or, or_true, false_or, or_false, and_self, or_self, if_true, if_false, reduceIte, not_true_eq_false, not_false_eq_true, Int.reduceEq, Int.reduceNe, Int.reduceLT, Int.reduceLE, Int.reduceAdd, Int.reduceSub, Int.reduceMul, Int.reduceNeg, Nat.reduceAdd, Nat.reduceLeDiff, Nat.reduceEqDiff, ne_eq, List.length_cons, List.length_nil, Nat.reduceSub, b21, s8]
          refine c_keepOrder hI hH1 hn5 b22 b23 ho1 fun H2 g1 g2 g3 g4 => ?_
          try simp only [e_NE_arrange_3, k_NE_arrange_3, rr, sh, Nat.reduceLT, Nat.reduceMul, Int.reduceToNat, Int.reduceGT, Int.reduceGE, Int.reduceNe, true_and, and_true, true_or, or_true, false_or, or_false, and_self, or_self, if_true, if_false, reduceIte, not_true_eq_false, not_false_eq_true, Int.reduceEq, Int.reduceNe, Int.reduceLT, Int.reduceLE, Int.reduceAdd, Int.reduceSub, Int.reduceMul, Int.reduceNeg, Nat.reduceAdd, Nat.reduceLeDiff, Nat.reduceEqDiff, ne_eq, List.length_cons, List.length_nil, Nat.reduceSub]
          refine hQ H2 g1 (fun k hk => ?_) g4
          rw [g2, g3]
          exact hsame k hk
        | some s =>
          have hst2 := hst1
          obtain ⟨s8, s9, s10, s49⟩ := hst1
          by_cases c2 : q.2 < s.2.2
          · have c2' : ¬ s.2.2 ≤ q.2 := Int.not_le.mpr c2
            simp only [if_pos c2] at hQ
            simp only [e_NE_arrange_2, k_NE_arrange_2, e_NE_arrange_3, k_NE_arrange_3, rr, sh, Nat.reduceLT, Nat.reduceMul, Int.reduceToNat, Int.reduceGT, Int.reduceGE, Int.reduceNe, true_and, and_true, true_or, or_true, false_or, or_false, and_self, or_self, if_true, if_false, reduceIte, not_true_eq_false, not_false_eq_true, Int.reduceEq, Int.reduceNe, Int.reduceLT, Int.reduceLE, Int.reduceAdd, Int.reduceSub, Int.reduceMul, Int.reduceNeg, Nat.reduceAdd, Nat.reduceLeDiff, Nat.reduceEqDiff, ne_eq, List.length_cons, List.length_nil, Nat.reduceSub, b21, s8, s9, b22, c3_ge, c2']
            refine c_keepOrder hI hH1 hn5 b22 b23 ho1 fun H2 g1 g2 g3 g4 => ?_
            try simp only [e_NE_arrange_3, k_NE_arrange_3, rr, sh, Nat.reduceLT, Nat.reduceMul, Int.reduceToNat, Int.reduceGT, Int.reduceGE, Int.reduceNe, true_and, and_true, true_or, or_true, false_or, or_false, and_self, or_self, if_true, if_false, reduceIte, not_true_eq_false, not_false_eq_true, Int.reduceEq, Int.reduceNe, Int.reduceLT, Int.reduceLE, Int.reduceAdd, Int.reduceSub, Int.reduceMul, Int.reduceNeg, Nat.reduceAdd, Nat.reduceLeDiff, Nat.reduceEqDiff, ne_eq, List.length_cons, List.length_nil, Nat.reduceSub]
            refine hQ H2 g1 (fun k hk => ?_) g4
            rw [g2, g3]
            exact hsame k hk
          · have c2' : s.2.2 ≤ q.2 := Int.not_lt.mp c2
            simp only [if_neg c2] at hQ
            simp only [e_NE_arrange_2, k_NE_arrange_2, e_NE_arrange_3, k_NE_arrange_3, rr, sh, Nat.reduceLT, Nat.reduceMul, Int.reduceToNat, Int.reduceGT, Int.reduceGE, Int.reduceNe, true_and, and_true, true_or, or_true, false_or, or_false, and_self, or_self, if_true, if_false, reduceIte, not_true_eq_false, not_false_eq_true, Int.reduceEq, Int.reduceNe, Int.reduceLT, Int.reduceLE, Int.reduceAdd, Int.reduceSub, Int.reduceMul, Int.reduceNeg, Nat.reduceAdd, Nat.reduceLeDiff, Nat.reduceEqDiff, ne_eq, List.length_cons, List.length_nil, Nat.reduceSub, b21, s8, s9, b22, c3_ge, c2']
            exact hQ H1 hH1 hsame hst2
  | j + 1, w, p, d, T, H, st, Q, hw, hT, hbit, hH, ho, hst, hQ => by
    have hwn : w < nS V := by omega
    have hn0 : 0 < nS V := Nat.lt_of_le_of_lt (Nat.zero_le w) hwn
    have ht := hI.crew.stroke
    have i2 : V 71 47 ≤ 100000 := Int.le_trans ht.2 (by decide)
    have h0 := hI.plan.seats
    have h6 := hI.plan.rowers
    have hS12 := hI.boat.s.2
    have w5 : (w : Int) < 5 := by clear hbit ho hQ hst h0 h6; omega
    have kw := w32_s (n := w) (by clear hbit ho hQ hst h0 h6; omega)
    have jw : 0 ≤ (w : Int) ∧ (w : Int) < 5 := ⟨Int.natCast_nonneg _, w5⟩
    have jw12 : 0 ≤ (w : Int) ∧ (w : Int) < 12 := ⟨Int.natCast_nonneg _, Int.lt_trans w5 (by decide)⟩
    have c1 : ¬ (nS V : Int) ≤ w := Int.not_le.mpr (Int.ofNat_lt.mpr hwn)
    have f : ∀ {H}, Vw V H → H 4 0 = V 4 0 ∧ H (V 4 0) 0 = nS V ∧ H (V 4 0) 6 = nR V ∧ H 4 3 = V 71 47 ∧ H 45 6 = 48 ∧ H 45 1 = 47 := fun {H} h => by
      refine ⟨h 4 0 rfl, ?_, ?_, (h 4 3 rfl).trans hI.cc.stroke, (h 45 6 rfl).trans (hI.ptr (45, 6, 48) (by decide +kernel)), (h 45 1 rfl).trans (hI.ptr (45, 1, 47) (by decide +kernel))⟩
      · rw [← h0]; refine h _ _ ?_; rcases hI.pp with e | e <;> rw [e] <;> rfl
      · rw [← h6]; refine h _ _ ?_; rcases hI.pp with e | e <;> rw [e] <;> rfl
    have z1 := shp hI
    simp only [en_NE_arrange, e_NE_arrange_0, k_NE_arrange_0, e_NE_arrange_4, k_NE_arrange_4, rr, sh, Nat.reduceLT, Nat.reduceMul, Int.reduceToNat, Int.reduceGT, Int.reduceGE, Int.reduceNe, true_and, and_true, true_or, or_true, false_or, or_false, and_self, or_self, if_true, if_false, reduceIte, not_true_eq_false, not_false_eq_true, Int.reduceEq, Int.reduceNe, Int.reduceLT, Int.reduceLE, Int.reduceAdd, Int.reduceSub, Int.reduceMul, Int.reduceNeg, Nat.reduceAdd, Nat.reduceLeDiff, Nat.reduceEqDiff, ne_eq, List.length_cons, List.length_nil, Nat.reduceSub, (f hH).1, (f hH).2.1, z1, c1, w5]
    refine up_nat (P := fun r => ∀ H', Vw V H' → (∀ k : Nat, k < w → H' 48 k = H 48 k ∧ H' 47 k = H 47 k) → StC V H' (foldR (fun r s => if tkD (nS V) w p r = true then s else arrF (nS V) (updS V) (tkD (nS V)) j (w + 1) (p * nS V + r) s) st r) → R (d + (j + 1) + 5) NE_arrange (blk NE_arrange 5) [va 45, va 4, va 42, vi w, vi T, va (V 4 0), vi r] [] H' Q) ?_ ?_ 0 (Nat.zero_le (nS V)) H hH (fun k _ => ⟨rfl, rfl⟩) hst
    · intro H' b1 b2 b3
      have c3 : (nR V : Int) ≤ nS V := by rw [hnr]; exact Int.le_refl _
      rw [e_NE_arrange_5]
      simp only [k_NE_arrange_5, e_NE_arrange_7, k_NE_arrange_7, rr, sh, Nat.reduceLT, Nat.reduceMul, Int.reduceToNat, Int.reduceGT, Int.reduceGE, Int.reduceNe, true_and, and_true, true_or, or_true, false_or, or_false, and_self, or_self, if_true, if_false, reduceIte, not_true_eq_false, not_false_eq_true, Int.reduceEq, Int.reduceNe, Int.reduceLT, Int.reduceLE, Int.reduceAdd, Int.reduceSub, Int.reduceMul, Int.reduceNeg, Nat.reduceAdd, Nat.reduceLeDiff, Nat.reduceEqDiff, ne_eq, List.length_cons, List.length_nil, Nat.reduceSub, z1, (f b1).2.2.1, c3]
      exact hQ H' b1 b2 b3
    · intro r hr ih H' b1 b2 b3
      have c3 : ¬ (nR V : Int) ≤ r := by rw [← hnr]; exact Int.not_le.mpr (Int.ofNat_lt.mpr hr)
      have kr := w32_s (n := r) (Nat.lt_of_lt_of_le hr (Nat.le_trans hS12 (by decide)))
      have r5 : r < 5 := Nat.lt_of_lt_of_le hr hn5
      have bb := b_bit (a := T) (k := r) (Nat.lt_trans hT (by decide)) (Nat.lt_trans r5 (by decide))
      rw [hbit r hr] at bb
      rw [e_NE_arrange_5]
      by_cases htk : tkD (nS V) w p r = true
      · rw [if_pos htk] at bb
        simp only [k_NE_arrange_5, e_NE_arrange_6, k_NE_arrange_6, rr, sh, Nat.reduceLT, Nat.reduceMul, Int.reduceToNat, Int.reduceGT, Int.reduceGE, Int.reduceNe, true_and, and_true, true_or, or_true, false_or, or_false, and_self, or_self, if_true, if_false, reduceIte, not_true_eq_false, not_false_eq_true, Int.reduceEq, Int.reduceNe, Int.reduceLT, Int.reduceLE, Int.reduceAdd, Int.reduceSub, Int.reduceMul, Int.reduceNeg, Nat.reduceAdd, Nat.reduceLeDiff, Nat.reduceEqDiff, ne_eq, List.length_cons, List.length_nil, Nat.reduceSub, z1, (f b1).2.2.1, c3, bb, kr]
        refine ih H' b1 b2 ?_
        show StC V H' (if tkD (nS V) w p r = true then _ else _)
        rw [if_pos htk]
        exact b3
      · rw [if_neg htk] at bb
        have hrr : 0 ≤ (r : Int) ∧ (r : Int) < nR V := ⟨Int.natCast_nonneg _, by rw [← hnr]; exact Int.ofNat_lt.mpr hr⟩
        have hX1 : Vw V (hs H' 48 w r) := b1.hs (c := 48) rfl
        have hX2 : Vw V (hs (hs H' 48 w r) 47 w (stg V r (V 71 47))) := hX1.hs (c := 47) rfl
        have hp : (1 : Nat) * 2 ^ r < 32 := by
          rw [Nat.one_mul]
          exact Nat.lt_of_le_of_lt (Nat.pow_le_pow_right (n := 2) (j := 4) (by decide) (Nat.le_of_lt_succ r5)) (by decide)
        have w3 : b_shl 1 r = ((1 * 2 ^ r : Nat) : Int) := b_shl_nat (a := 1) (Nat.lt_trans r5 (by decide)) (Nat.lt_trans hp (by decide))
        have w4 : b_or (T : Int) ((1 * 2 ^ r : Nat) : Int) = ((T ||| 1 * 2 ^ r : Nat) : Int) := b_or_nat (Nat.lt_trans hT (by decide)) (Nat.lt_trans hp (by decide))
        have qs : ∀ {Q : AV → Hp → Prop}, CC (d + (j + 1) + 4) CW_strengthAt [va 4, vi r, vi (V 71 47)] (hs H' 48 w r) Q = Q (vi (stg V r (V 71 47))) (hs H' 48 w r) := fun {Q} => by
          have := q_strengthAt (d := d + (j + 1) + 3) (Q := Q) hI hX1 (r := (r : Int)) (t := V 71 47) ht.1 i2
          rw [if_pos hrr] at this
          exact this
        simp only [k_NE_arrange_5, rr, sh, Nat.reduceLT, Nat.reduceMul, Int.reduceToNat, Int.reduceGT, Int.reduceGE, Int.reduceNe, true_and, and_true, true_or, or_true, false_or, or_false, and_self, or_self, if_true, if_false, reduceIte, not_true_eq_false, not_false_eq_true, Int.reduceEq, Int.reduceNe, Int.reduceLT, Int.reduceLE, Int.reduceAdd, Int.reduceSub, Int.reduceMul, Int.reduceNeg, Nat.reduceAdd, Nat.reduceLeDiff, Nat.reduceEqDiff, ne_eq, List.length_cons, List.length_nil, Nat.reduceSub, z1, (f b1).2.2.1, c3, bb, (f b1).2.2.2.2.1, jw, (f hX1).2.2.2.1, (f hX1).2.2.2.2.2, qs, jw12, kw, w3, w4]
        refine c_arrange hI hnr hn5 j (w + 1) (p * nS V + r) (d := d) (T := T ||| 1 * 2 ^ r) (st := foldR (fun r s => if tkD (nS V) w p r = true then s else arrF (nS V) (updS V) (tkD (nS V)) j (w + 1) (p * nS V + r) s) st r) (by clear ih hQ b3 hst hbit ho bb w3 w4; omega) (Nat.or_lt_two_pow (n := 5) hT hp) (fun r' hr' => ?_) hX2 (fun k hk => ?_) ?_ (fun H2 e1 e2 e3 => ?_)
        · rw [Nat.testBit_or, Nat.one_mul, Nat.testBit_two_pow, hbit r' hr']
          unfold tkD
          rw [Bool.eq_iff_iff]
          simp only [Bool.or_eq_true, decide_eq_true_eq]
          constructor
          · rintro (⟨k, k1, k2⟩ | e)
            · exact ⟨k, Nat.lt_succ_of_lt k1, by rw [dgt_lo hn0 hr k1]; exact k2⟩
            · exact ⟨w, Nat.lt_succ_self w, by rw [dgt_hi hr]; exact e⟩
          · rintro ⟨k, k1, k2⟩
            by_cases e : k = w
            · subst e
              rw [dgt_hi hr] at k2
              exact Or.inr k2
            · have k1' : k < w := Nat.lt_of_le_of_ne (Nat.le_of_lt_succ k1) e
              rw [dgt_lo hn0 hr k1'] at k2
              exact Or.inl ⟨k, k1', k2⟩
        · rw [hs_ne' (by decide), hs_at, hs_at]
          by_cases e : k = w
          · subst e
            rw [if_pos rfl, if_pos rfl, dgt_hi hr]
            exact ⟨rfl, rfl⟩
          · have k1' : k < w := Nat.lt_of_le_of_ne (Nat.le_of_lt_succ hk) e
            have e' : ¬ (k : Int) = w := fun z => e (Int.ofNat_inj.mp z)
            rw [if_neg e', if_neg e', hs_ne' (by decide), dgt_lo hn0 hr k1', (b2 k k1').1, (b2 k k1').2]
            exact ho k k1'
        · refine b3.fr ?_ ?_ ?_ ?_
          · rw [hs_ne' (by decide), hs_ne' (by decide)]
          · rw [hs_ne' (by decide), hs_ne' (by decide)]
          · rw [hs_ne' (by decide), hs_ne' (by decide)]
          · rw [hs_ne (by decide), hs_ne (by decide)]
        · try simp only [e_NE_arrange_6, k_NE_arrange_6, rr, sh, Nat.reduceLT, Nat.reduceMul, Int.reduceToNat, Int.reduceGT, Int.reduceGE, Int.reduceNe, true_and, and_true, true_or, or_true, false_or, or_false, and_self, or_self, if_true, if_false, reduceIte, not_true_eq_false, not_false_eq_true, Int.reduceEq, Int.reduceNe, Int.reduceLT, Int.reduceLE, Int.reduceAdd, Int.reduceSub, Int.reduceMul, Int.reduceNeg, Nat.reduceAdd, Nat.reduceLeDiff, Nat.reduceEqDiff, ne_eq, List.length_cons, List.length_nil, Nat.reduceSub, kr]
          refine ih H2 e1 (fun k hk => ?_) ?_
          · obtain ⟨g1, g2⟩ := e2 k (Nat.lt_succ_of_lt hk)
            have e' : ¬ (k : Int) = w := fun z => Nat.ne_of_lt hk (Int.ofNat_inj.mp z)
            rw [g1, g2, hs_ne' (by decide), hs_at, hs_at, if_neg e', if_neg e', hs_ne' (by decide)]
            exact b2 k hk
          · show StC V H2 (if tkD (nS V) w p r = true then _ else _)
            rw [if_neg htk]
            exact e3
set_option maxRecDepth 20000 in
theorem c_findOrder (hI : Inq V) {d : Nat} {Q : AV → Hp → Prop} (hno : ¬ (nS V = nR V ∧ nS V ≤ 5) → ∀ H', Vw V H' → Q (vi 0) H') (h0 : (nS V = nR V ∧ nS V ≤ 5) → bestS V = none → ∀ H', Vw V H' → Q (vi 0) H') (h1 : (nS V = nR V ∧ nS V ≤ 5) → ∀ s, bestS V = some s → ∀ H', Vw V H' → StC V H' (some s) → Q (vi 1) H') : CC (d + 19) NE_findOrder [va 45, va 4, va 42] V Q := by
  have e0 := hI.plan.seats
  have e6 := hI.plan.rowers
  have z1 := shp hI
  have pne : V 4 0 ≠ 45 := by rcases hI.pp with e | e <;> rw [e] <;> decide
  have y0 : ∀ v, hs V 45 8 v (V 4 0) 0 = nS V := fun v => by rw [hs_ne pne]; exact e0
  have y6 : ∀ v, hs V 45 8 v (V 4 0) 6 = nR V := fun v => by rw [hs_ne pne]; exact e6
  have hX : Vw V (hs V 45 8 0) := Vw.rf.hs (c := 45) (j := 8) rfl
  by_cases hc1 : nS V = nR V
  · have ce : (nS V : Int) = nR V := by rw [hc1]
    by_cases hc2 : nS V ≤ 5
    · have c5 : ¬ 5 < (nS V : Int) := Int.not_lt.mpr (Int.ofNat_le.mpr hc2)
      simp only [en_NE_findOrder, e_NE_findOrder_0, k_NE_findOrder_0, rr, sh, Nat.reduceLT, Nat.reduceMul, Int.reduceToNat, Int.reduceGT, Int.reduceGE, Int.reduceNe, true_and, and_true, true_or, or_true, false_or, or_false, and_self, or_self, if_true, if_false, reduceIte, not_true_eq_false, not_false_eq_true, Int.reduceEq, Int.reduceNe, Int.reduceLT, Int.reduceLE, Int.reduceAdd, Int.reduceSub, Int.reduceMul, Int.reduceNeg, Nat.reduceAdd, Nat.reduceLeDiff, Nat.reduceEqDiff, ne_eq, List.length_cons, List.length_nil, Nat.reduceSub, z1, y0, y6, ← ce, c5]
      have hdd : d + 18 = (d + 13 - nS V) + nS V + 5 := by clear z1 e0 e6 y0 y6 ce c5 h0 h1 hno; omega
      refine CC_d hdd (c_arrange hI hc1 hc2 (nS V) 0 0 (d := d + 13 - nS V) (T := 0) (st := none) (Nat.zero_add _) (by decide) (fun r _ => ?_) hX (fun q hq => absurd hq (Nat.not_lt_zero q)) hs_same (fun H' g1 _ g3 => ?_))
      · rw [Nat.zero_testBit]
        exact (decide_eq_false (fun ⟨q, q1, _⟩ => absurd q1 (Nat.not_lt_zero q))).symm
      · have g3' : StC V H' (bestS V) := by
          rcases Nat.eq_zero_or_pos (nS V) with z | z
          · rw [best_arr0 z]; exact g3
          · rw [best_arr V z]; exact g3
        cases hb : bestS V with
        | none =>
          rw [hb] at g3'
          have g8 : H' 45 8 = 0 := g3'
          simp only [e_NE_findOrder_1, k_NE_findOrder_1, rr, sh, Nat.reduceLT, Nat.reduceMul, Int.reduceToNat, Int.reduceGT, Int.reduceGE, Int.reduceNe, true_and, and_true, true_or, or_true, false_or, or_false, and_self, or_self, if_true, if_false, reduceIte, not_true_eq_false, not_false_eq_true, Int.reduceEq, Int.reduceNe, Int.reduceLT, Int.reduceLE, Int.reduceAdd, Int.reduceSub, Int.reduceMul, Int.reduceNeg, Nat.reduceAdd, Nat.reduceLeDiff, Nat.reduceEqDiff, ne_eq, List.length_cons, List.length_nil, Nat.reduceSub, g8]
          exact h0 ⟨hc1, hc2⟩ hb H' g1
        | some s =>
          rw [hb] at g3'
          have g8 : H' 45 8 = 1 := g3'.1
          simp only [e_NE_findOrder_1, k_NE_findOrder_1, rr, sh, Nat.reduceLT, Nat.reduceMul, Int.reduceToNat, Int.reduceGT, Int.reduceGE, Int.reduceNe, true_and, and_true, true_or, or_true, false_or, or_false, and_self, or_self, if_true, if_false, reduceIte, not_true_eq_false, not_false_eq_true, Int.reduceEq, Int.reduceNe, Int.reduceLT, Int.reduceLE, Int.reduceAdd, Int.reduceSub, Int.reduceMul, Int.reduceNeg, Nat.reduceAdd, Nat.reduceLeDiff, Nat.reduceEqDiff, ne_eq, List.length_cons, List.length_nil, Nat.reduceSub, g8]
          exact h1 ⟨hc1, hc2⟩ s hb H' g1 g3'
    · have c5 : 5 < (nS V : Int) := Int.ofNat_lt.mpr (Nat.not_le.mp hc2)
      simp only [en_NE_findOrder, e_NE_findOrder_0, k_NE_findOrder_0, e_NE_findOrder_1, k_NE_findOrder_1, rr, sh, Nat.reduceLT, Nat.reduceMul, Int.reduceToNat, Int.reduceGT, Int.reduceGE, Int.reduceNe, true_and, and_true, true_or, or_true, false_or, or_false, and_self, or_self, if_true, if_false, reduceIte, not_true_eq_false, not_false_eq_true, Int.reduceEq, Int.reduceNe, Int.reduceLT, Int.reduceLE, Int.reduceAdd, Int.reduceSub, Int.reduceMul, Int.reduceNeg, Nat.reduceAdd, Nat.reduceLeDiff, Nat.reduceEqDiff, ne_eq, List.length_cons, List.length_nil, Nat.reduceSub, z1, y0, y6, ← ce, c5, hs_same]
      exact hno (fun z => hc2 z.2) _ hX
  · have ce : ¬ (nS V : Int) = nR V := fun z => hc1 (Int.ofNat_inj.mp z)
    simp only [en_NE_findOrder, e_NE_findOrder_0, k_NE_findOrder_0, e_NE_findOrder_1, k_NE_findOrder_1, rr, sh, Nat.reduceLT, Nat.reduceMul, Int.reduceToNat, Int.reduceGT, Int.reduceGE, Int.reduceNe, true_and, and_true, true_or, or_true, false_or, or_false, and_self, or_self, if_true, if_false, reduceIte, not_true_eq_false, not_false_eq_true, Int.reduceEq, Int.reduceNe, Int.reduceLT, Int.reduceLE, Int.reduceAdd, Int.reduceSub, Int.reduceMul, Int.reduceNeg, Nat.reduceAdd, Nat.reduceLeDiff, Nat.reduceEqDiff, ne_eq, List.length_cons, List.length_nil, Nat.reduceSub, z1, y0, y6, ce, hs_same]
    exact hno (fun z => hc1 z.1) _ hX
set_option maxRecDepth 20000 in
theorem c_seatedC (hI : Inq V) {d : Nat} {Q : AV → Hp → Prop} {k : Int} (hQ : ∀ H', Vw V H' → Q (vl (seatedS V k)) H') : CC (d + 20) EO_seated [va 1, vi k] V Q := by
  have p1 : V 1 1 = 4 := hI.ptr (1, 1, 4) (by decide +kernel)
  have p5 : V 1 5 = 45 := hI.ptr (1, 5, 45) (by decide +kernel)
  have p4 : V 1 4 = 42 := hI.ptr (1, 4, 42) (by decide +kernel)
  have h0 := hI.plan.seats
  have z1 := shp hI
  have f : ∀ {H}, Vw V H → H 1 5 = 45 ∧ H 45 7 = 49 := fun {H} h => ⟨(h 1 5 rfl).trans p5, (h 45 7 rfl).trans (hI.ptr (45, 7, 49) (by decide +kernel))⟩
  have hsee : ∀ H', Vw V H' → ((¬ (nS V = nR V ∧ nS V ≤ 5) ∨ ¬ (k = -1 ∨ k = 20 ∨ (0 ≤ k ∧ k < nS V))) → Q (vl (-1)) H') ∧ ((nS V = nR V ∧ nS V ≤ 5) → (k = -1 ∨ k = 20 ∨ (0 ≤ k ∧ k < nS V)) → Q (vl (seatA V (bestS V) k)) H') := fun H' h => by
    have := hQ H' h
    unfold seatedS at this
    refine ⟨fun z => ?_, fun z1 z2 => ?_⟩
    · rw [if_neg (fun q => z.elim (fun y => y q.1) (fun y => y q.2))] at this
      exact this
    · rw [if_pos ⟨z1, z2⟩] at this
      exact this
  by_cases k1 : k = -1
  · subst k1
    simp only [en_EO_seated, e_EO_seated_0, k_EO_seated_0, e_EO_seated_1, k_EO_seated_1, e_EO_seated_3, k_EO_seated_3, rr, sh, Nat.reduceLT, Nat.reduceMul, Int.reduceToNat, Int.reduceGT, Int.reduceGE, Int.reduceNe, true_and, and_true, true_or, or_true, false_or, or_false, and_self, or_self, if_true, if_false, reduceIte, not_true_eq_false, not_false_eq_true, Int.reduceEq, Int.reduceNe, Int.reduceLT, Int.reduceLE, Int.reduceAdd, Int.reduceSub, Int.reduceMul, Int.reduceNeg, Nat.reduceAdd, Nat.reduceLeDiff, Nat.reduceEqDiff, ne_eq, List.length_cons, List.length_nil, Nat.reduceSub, p1, p5, p4]
    refine c_findOrder (d := d) hI (fun q H' g1 => ?_) (fun q q2 H' g1 => ?_) (fun q s q2 H' g1 g2 => ?_)
    · simp only [e_EO_seated_4, k_EO_seated_4, rr, sh, Nat.reduceLT, Nat.reduceMul, Int.reduceToNat, Int.reduceGT, Int.reduceGE, Int.reduceNe, true_and, and_true, true_or, or_true, false_or, or_false, and_self, or_self, if_true, if_false, reduceIte, not_true_eq_false, not_false_eq_true, Int.reduceEq, Int.reduceNe, Int.reduceLT, Int.reduceLE, Int.reduceAdd, Int.reduceSub, Int.reduceMul, Int.reduceNeg, Nat.reduceAdd, Nat.reduceLeDiff, Nat.reduceEqDiff, ne_eq, List.length_cons, List.length_nil, Nat.reduceSub]
      exact (hsee H' g1).1 (Or.inl q)
    · simp only [e_EO_seated_4, k_EO_seated_4, rr, sh, Nat.reduceLT, Nat.reduceMul, Int.reduceToNat, Int.reduceGT, Int.reduceGE, Int.reduceNe, true_and, and_true, true_or, or_true, false_or, or_false, and_self, or_self, if_true, if_false, reduceIte, not_true_eq_false, not_false_eq_true, Int.reduceEq, Int.reduceNe, Int.reduceLT, Int.reduceLE, Int.reduceAdd, Int.reduceSub, Int.reduceMul, Int.reduceNeg, Nat.reduceAdd, Nat.reduceLeDiff, Nat.reduceEqDiff, ne_eq, List.length_cons, List.length_nil, Nat.reduceSub]
      have := (hsee H' g1).2 q (Or.inl rfl)
      rw [q2] at this
      exact this
    · have g9 := g2.2.1
      simp only [e_EO_seated_5, k_EO_seated_5, rr, sh, Nat.reduceLT, Nat.reduceMul, Int.reduceToNat, Int.reduceGT, Int.reduceGE, Int.reduceNe, true_and, and_true, true_or, or_true, false_or, or_false, and_self, or_self, if_true, if_false, reduceIte, not_true_eq_false, not_false_eq_true, Int.reduceEq, Int.reduceNe, Int.reduceLT, Int.reduceLE, Int.reduceAdd, Int.reduceSub, Int.reduceMul, Int.reduceNeg, Nat.reduceAdd, Nat.reduceLeDiff, Nat.reduceEqDiff, ne_eq, List.length_cons, List.length_nil, Nat.reduceSub, (f g1).1, g9]
      have := (hsee H' g1).2 q (Or.inl rfl)
      rw [q2] at this
      exact this
  · by_cases k2 : k = 20
    · subst k2
      simp only [en_EO_seated, e_EO_seated_0, k_EO_seated_0, e_EO_seated_1, k_EO_seated_1, e_EO_seated_3, k_EO_seated_3, rr, sh, Nat.reduceLT, Nat.reduceMul, Int.reduceToNat, Int.reduceGT, Int.reduceGE, Int.reduceNe, true_and, and_true, true_or, or_true, false_or, or_false, and_self, or_self, if_true, if_false, reduceIte, not_true_eq_false, not_false_eq_true, Int.reduceEq, Int.reduceNe, Int.reduceLT, Int.reduceLE, Int.reduceAdd, Int.reduceSub, Int.reduceMul, Int.reduceNeg, Nat.reduceAdd, Nat.reduceLeDiff, Nat.reduceEqDiff, ne_eq, List.length_cons, List.length_nil, Nat.reduceSub, p1, p5, p4]
      refine c_findOrder (d := d) hI (fun q H' g1 => ?_) (fun q q2 H' g1 => ?_) (fun q s q2 H' g1 g2 => ?_)
      · simp only [e_EO_seated_4, k_EO_seated_4, rr, sh, Nat.reduceLT, Nat.reduceMul, Int.reduceToNat, Int.reduceGT, Int.reduceGE, Int.reduceNe, true_and, and_true, true_or, or_true, false_or, or_false, and_self, or_self, if_true, if_false, reduceIte, not_true_eq_false, not_false_eq_true, Int.reduceEq, Int.reduceNe, Int.reduceLT, Int.reduceLE, Int.reduceAdd, Int.reduceSub, Int.reduceMul, Int.reduceNeg, Nat.reduceAdd, Nat.reduceLeDiff, Nat.reduceEqDiff, ne_eq, List.length_cons, List.length_nil, Nat.reduceSub]
        exact (hsee H' g1).1 (Or.inl q)
      · simp only [e_EO_seated_4, k_EO_seated_4, rr, sh, Nat.reduceLT, Nat.reduceMul, Int.reduceToNat, Int.reduceGT, Int.reduceGE, Int.reduceNe, true_and, and_true, true_or, or_true, false_or, or_false, and_self, or_self, if_true, if_false, reduceIte, not_true_eq_false, not_false_eq_true, Int.reduceEq, Int.reduceNe, Int.reduceLT, Int.reduceLE, Int.reduceAdd, Int.reduceSub, Int.reduceMul, Int.reduceNeg, Nat.reduceAdd, Nat.reduceLeDiff, Nat.reduceEqDiff, ne_eq, List.length_cons, List.length_nil, Nat.reduceSub]
        have := (hsee H' g1).2 q (Or.inr (Or.inl rfl))
        rw [q2] at this
        exact this
      · have g10 := g2.2.2.1
        simp only [e_EO_seated_5, k_EO_seated_5, e_EO_seated_6, k_EO_seated_6, e_EO_seated_8, k_EO_seated_8, rr, sh, Nat.reduceLT, Nat.reduceMul, Int.reduceToNat, Int.reduceGT, Int.reduceGE, Int.reduceNe, true_and, and_true, true_or, or_true, false_or, or_false, and_self, or_self, if_true, if_false, reduceIte, not_true_eq_false, not_false_eq_true, Int.reduceEq, Int.reduceNe, Int.reduceLT, Int.reduceLE, Int.reduceAdd, Int.reduceSub, Int.reduceMul, Int.reduceNeg, Nat.reduceAdd, Nat.reduceLeDiff, Nat.reduceEqDiff, ne_eq, List.length_cons, List.length_nil, Nat.reduceSub, (f g1).1, g10]
        have := (hsee H' g1).2 q (Or.inr (Or.inl rfl))
        rw [q2] at this
        exact this
    · by_cases k3 : 0 ≤ k ∧ k < nS V
      · simp only [en_EO_seated, e_EO_seated_0, k_EO_seated_0, e_EO_seated_1, k_EO_seated_1, e_EO_seated_3, k_EO_seated_3, rr, sh, Nat.reduceLT, Nat.reduceMul, Int.reduceToNat, Int.reduceGT, Int.reduceGE, Int.reduceNe, true_and, and_true, true_or, or_true, false_or, or_false, and_self, or_self, if_true, if_false, reduceIte, not_true_eq_false, not_false_eq_true, Int.reduceEq, Int.reduceNe, Int.reduceLT, Int.reduceLE, Int.reduceAdd, Int.reduceSub, Int.reduceMul, Int.reduceNeg, Nat.reduceAdd, Nat.reduceLeDiff, Nat.reduceEqDiff, ne_eq, List.length_cons, List.length_nil, Nat.reduceSub, p1, p5, p4, k1, k2, q_isSeat z1, z1, h0, k3]
        refine c_findOrder (d := d) hI (fun q H' g1 => ?_) (fun q q2 H' g1 => ?_) (fun q s q2 H' g1 g2 => ?_)
        · simp only [e_EO_seated_4, k_EO_seated_4, rr, sh, Nat.reduceLT, Nat.reduceMul, Int.reduceToNat, Int.reduceGT, Int.reduceGE, Int.reduceNe, true_and, and_true, true_or, or_true, false_or, or_false, and_self, or_self, if_true, if_false, reduceIte, not_true_eq_false, not_false_eq_true, Int.reduceEq, Int.reduceNe, Int.reduceLT, Int.reduceLE, Int.reduceAdd, Int.reduceSub, Int.reduceMul, Int.reduceNeg, Nat.reduceAdd, Nat.reduceLeDiff, Nat.reduceEqDiff, ne_eq, List.length_cons, List.length_nil, Nat.reduceSub]
          exact (hsee H' g1).1 (Or.inl q)
        · simp only [e_EO_seated_4, k_EO_seated_4, rr, sh, Nat.reduceLT, Nat.reduceMul, Int.reduceToNat, Int.reduceGT, Int.reduceGE, Int.reduceNe, true_and, and_true, true_or, or_true, false_or, or_false, and_self, or_self, if_true, if_false, reduceIte, not_true_eq_false, not_false_eq_true, Int.reduceEq, Int.reduceNe, Int.reduceLT, Int.reduceLE, Int.reduceAdd, Int.reduceSub, Int.reduceMul, Int.reduceNeg, Nat.reduceAdd, Nat.reduceLeDiff, Nat.reduceEqDiff, ne_eq, List.length_cons, List.length_nil, Nat.reduceSub]
          have := (hsee H' g1).2 q (Or.inr (Or.inr k3))
          rw [q2] at this
          exact this
        · obtain ⟨m, rfl⟩ := Int.eq_ofNat_of_zero_le k3.1
          have hm : m < nS V := Int.ofNat_lt.mp k3.2
          have m5 : (m : Int) < 5 := Int.ofNat_lt.mpr (Nat.lt_of_lt_of_le hm q.2)
          have m0 : ¬ (m : Int) < 0 := Int.not_lt.mpr (Int.natCast_nonneg _)
          have m5' : ¬ 5 ≤ (m : Int) := Int.not_le.mpr m5
          have jm : 0 ≤ (m : Int) ∧ (m : Int) < 5 := ⟨Int.natCast_nonneg _, m5⟩
          have g49 := g2.2.2.2 m hm
          simp only [e_EO_seated_5, k_EO_seated_5, e_EO_seated_6, k_EO_seated_6, e_EO_seated_7, k_EO_seated_7, e_EO_seated_8, k_EO_seated_8, en_NE_bestRower, e_NE_bestRower_0, k_NE_bestRower_0, e_NE_bestRower_1, k_NE_bestRower_1, e_NE_bestRower_2, k_NE_bestRower_2, rr, sh, Nat.reduceLT, Nat.reduceMul, Int.reduceToNat, Int.reduceGT, Int.reduceGE, Int.reduceNe, true_and, and_true, true_or, or_true, false_or, or_false, and_self, or_self, if_true, if_false, reduceIte, not_true_eq_false, not_false_eq_true, Int.reduceEq, Int.reduceNe, Int.reduceLT, Int.reduceLE, Int.reduceAdd, Int.reduceSub, Int.reduceMul, Int.reduceNeg, Nat.reduceAdd, Nat.reduceLeDiff, Nat.reduceEqDiff, ne_eq, List.length_cons, List.length_nil, Nat.reduceSub, (f g1).1, (f g1).2, k1, k2, m0, m5', jm, g49]
          have := (hsee H' g1).2 q (Or.inr (Or.inr k3))
          rw [q2] at this
          unfold seatA at this
          simp only [if_neg k1, if_neg k2, Int.toNat_natCast] at this
          exact this
      · simp only [en_EO_seated, e_EO_seated_0, k_EO_seated_0, e_EO_seated_2, k_EO_seated_2, e_EO_seated_3, k_EO_seated_3, e_EO_seated_4, k_EO_seated_4, rr, sh, Nat.reduceLT, Nat.reduceMul, Int.reduceToNat, Int.reduceGT, Int.reduceGE, Int.reduceNe, true_and, and_true, true_or, or_true, false_or, or_false, and_self, or_self, if_true, if_false, reduceIte, not_true_eq_false, not_false_eq_true, Int.reduceEq, Int.reduceNe, Int.reduceLT, Int.reduceLE, Int.reduceAdd, Int.reduceSub, Int.reduceMul, Int.reduceNeg, Nat.reduceAdd, Nat.reduceLeDiff, Nat.reduceEqDiff, ne_eq, List.length_cons, List.length_nil, Nat.reduceSub, p1, k1, k2, q_isSeat z1, z1, h0, k3]
        exact (hsee V Vw.rf).1 (Or.inr (fun z => z.elim k1 (fun y => y.elim k2 k3)))
end SC
