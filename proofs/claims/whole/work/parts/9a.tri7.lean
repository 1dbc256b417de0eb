/-! strengths: the class's answer -/
def strA (V : Hp) (L G w : Int) : Int := if w = 0 then cntV V else if cntV V = 0 then -1 else if w = 1 then L else G
def strOk (V : Hp) (r w : Int) : Prop := nR V ≤ 6 ∧ (0 ≤ r ∧ r < nR V) ∧ 0 ≤ w ∧ w ≤ 2
def TrO (V H : Hp) : Prop := H 58 7 = 1 ∧ H 58 8 = cntV V ∧ (cntV V ≠ 0 → ∀ q : Nat, q < nR V → LstOk V q (H 64 q) ∧ MstOk V q (H 65 q))
theorem gB_0 {V : Hp} (hM : Inm V) : gB V (gp0 V) 0 := fun r hr => by
  have := hM.boat.rsw r hr
  unfold gp0
  show -(100000 + 9 * ((0 : Nat) : Int) * bX) ≤ _ ∧ _ ≤ 100000 + 9 * ((0 : Nat) : Int) * bX
  rw [show (9 : Int) * ((0 : Nat) : Int) * bX = 0 from rfl]
  omega
theorem lst_of {V : Hp} {q : Nat} {L : Int} (hq : q < nR V) (hc : cntV V ≠ 0) (h : NoL V (nR V) 0 (gp0 V) q 9 L) : LstOk V q L := fun v => by
  rw [h v]
  constructor
  · rintro (z | ⟨t, t1, t2⟩)
    · have hp : 0 < cntG V (nR V) 0 (gp0 V) := by
        have := (cntG_rng (V := V) (j := nR V) (k := 0) (gp := gp0 V)).1
        rw [cnt_all] at this ⊢
        omega
      obtain ⟨t, ht⟩ := cntG_pos.mp hp
      have hs := sol_all.mp ht
      exact ⟨t, hs, Int.le_trans (hs.1 q hq).2 z⟩
    · exact ⟨t, sol_all.mp t1, t2⟩
  · rintro ⟨t, t1, t2⟩
    exact Or.inr ⟨t, sol_all.mpr t1, t2⟩
theorem mst_of {V : Hp} {q : Nat} {G : Int} (hq : q < nR V) (hc : cntV V ≠ 0) (h : NoM V (nR V) 0 (gp0 V) q 1 G) : MstOk V q G := fun v => by
  rw [h v]
  constructor
  · rintro (z | ⟨t, t1, t2⟩)
    · have hp : 0 < cntG V (nR V) 0 (gp0 V) := by
        have := (cntG_rng (V := V) (j := nR V) (k := 0) (gp := gp0 V)).1
        rw [cnt_all] at this ⊢
        omega
      obtain ⟨t, ht⟩ := cntG_pos.mp hp
      have hs := sol_all.mp ht
      exact ⟨t, hs, Int.le_trans z (hs.1 q hq).1⟩
    · exact ⟨t, sol_all.mp t1, t2⟩
  · rintro ⟨t, t1, t2⟩
    exact Or.inr ⟨t, sol_all.mpr t1, t2⟩
section TA
variable {V : Hp}
set_option maxRecDepth 20000 in
theorem c_countRows (hI : Inq V) (hnR : nR V ≤ 6) (hn0 : 0 < nR V) {d : Nat} {Q : AV → Hp → Prop} (hQ : ∀ H', Fx sTR V H' → H' 58 8 = cntV V → (cntV V ≠ 0 → ∀ q : Nat, q < nR V → LstOk V q (H' 64 q) ∧ MstOk V q (H' 65 q)) → Q vu H') : CC (d + nR V + 4) TR_countRows [va 58, va (V 4 0)] V Q := by
  have hu := hI.boat.u
  have z1 := shp hI
  have p5 : V 58 5 = 64 := hI.ptr (58, 5, 64) (by decide +kernel)
  simp only [en_TR_countRows, e_TR_countRows_0, k_TR_countRows_0, rr, sh, Nat.reduceLT, Nat.reduceMul, Int.reduceToNat, Int.reduceGT, Int.reduceGE, Int.reduceNe, true_and, and_true, true_or, or_true, false_or, or_false, and_self, or_self, if_true, if_false, reduceIte, not_true_eq_false, not_false_eq_true, Int.reduceEq, Int.reduceNe, Int.reduceLT, Int.reduceLE, Int.reduceAdd, Int.reduceSub, Int.reduceMul, Int.reduceNeg, Nat.reduceAdd, Nat.reduceLeDiff, Nat.reduceEqDiff, ne_eq, List.length_cons, List.length_nil, Nat.reduceSub, p5]
  refine c_fillI (n := 6) rfl rfl (by decide) fun H1 a1 a2 => ?_
  have q6 : H1 58 6 = 65 := by rw [a1 58 (by decide)]; exact hI.ptr (58, 6, 65) (by decide +kernel)
  simp only [rr, sh, Nat.reduceLT, Nat.reduceMul, Int.reduceToNat, Int.reduceGT, Int.reduceGE, Int.reduceNe, true_and, and_true, true_or, or_true, false_or, or_false, and_self, or_self, if_true, if_false, reduceIte, not_true_eq_false, not_false_eq_true, Int.reduceEq, Int.reduceNe, Int.reduceLT, Int.reduceLE, Int.reduceAdd, Int.reduceSub, Int.reduceMul, Int.reduceNeg, Nat.reduceAdd, Nat.reduceLeDiff, Nat.reduceEqDiff, ne_eq, List.length_cons, List.length_nil, Nat.reduceSub, q6]
  refine c_fillI (n := 6) rfl rfl (by decide) fun H2 b1 b2 => ?_
  try simp only [rr, sh, Nat.reduceLT, Nat.reduceMul, Int.reduceToNat, Int.reduceGT, Int.reduceGE, Int.reduceNe, true_and, and_true, true_or, or_true, false_or, or_false, and_self, or_self, if_true, if_false, reduceIte, not_true_eq_false, not_false_eq_true, Int.reduceEq, Int.reduceNe, Int.reduceLT, Int.reduceLE, Int.reduceAdd, Int.reduceSub, Int.reduceMul, Int.reduceNeg, Nat.reduceAdd, Nat.reduceLeDiff, Nat.reduceEqDiff, ne_eq, List.length_cons, List.length_nil, Nat.reduceSub]
  have hS2 : Fx sTR V H2 := fun a b q => by
    have e5 : a ≠ 65 := fun z => by rw [z] at q; cases q
    have e4 : a ≠ 64 := fun z => by rw [z] at q; cases q
    rw [b1 a e5, a1 a e4]
  have h64 : ∀ k : Nat, k < 6 → H2 64 k = 9 := fun k hk => by rw [b1 64 (by decide)]; exact a2 k hk
  refine up_nat (P := fun r => ∀ H', Fx sTR V H' → (∀ k : Nat, k < 6 → H' 64 k = 9 ∧ H' 65 k = 1) → (∀ r' : Nat, r' < r → H' 59 r' = gp0 V r' ∧ bdR V H' r' 0) → R (d + nR V + 4) TR_countRows (blk TR_countRows 1) [va 58, va (V 4 0), vi r] [] H' Q) ?_ ?_ 0 (Nat.zero_le (nU V)) H2 hS2 (fun k hk => ⟨h64 k hk, b2 k hk⟩) (fun r' hr' => absurd hr' (Nat.not_lt_zero r'))
  · intro H3 c1 c2 c3
    have f := trF hI c1
    obtain ⟨j, hj⟩ : ∃ j, nR V = j + 1 := ⟨nR V - 1, by clear z1 f hQ c2 c3; omega⟩
    have hT : TrS V H3 (gp0 V) := ⟨c1, fun r hr => (c3 r hr).1, fun r k hr hk => (c3 r hr).2.1 k (Nat.zero_le k) hk, fun r k hr hk => (c3 r hr).2.2 k (Nat.zero_le k) hk⟩
    rw [e_TR_countRows_1]
    simp only [k_TR_countRows_1, e_TR_countRows_2, k_TR_countRows_2, rr, sh, Nat.reduceLT, Nat.reduceMul, Int.reduceToNat, Int.reduceGT, Int.reduceGE, Int.reduceNe, true_and, and_true, true_or, or_true, false_or, or_false, and_self, or_self, if_true, if_false, reduceIte, not_true_eq_false, not_false_eq_true, Int.reduceEq, Int.reduceNe, Int.reduceLT, Int.reduceLE, Int.reduceAdd, Int.reduceSub, Int.reduceMul, Int.reduceNeg, Nat.reduceAdd, Nat.reduceLeDiff, Nat.reduceEqDiff, ne_eq, List.length_cons, List.length_nil, Nat.reduceSub, z1, f.2.2.2.2.2.2.2.2, Int.le_refl]
    have hdd : d + nR V + 3 = (d + 1) + j + 3 := by clear z1 f hQ c2 c3 hT; omega
    refine CC_d hdd (c_rowsFrom hI hnR j (d := d + 1) (k := 0) (gp := gp0 V) (by rw [hj, Nat.zero_add]) hT (gB_0 hI.m) fun H4 g1 _ g3 => ?_)
    simp only [rr, sh, Nat.reduceLT, Nat.reduceMul, Int.reduceToNat, Int.reduceGT, Int.reduceGE, Int.reduceNe, true_and, and_true, true_or, or_true, false_or, or_false, and_self, or_self, if_true, if_false, reduceIte, not_true_eq_false, not_false_eq_true, Int.reduceEq, Int.reduceNe, Int.reduceLT, Int.reduceLE, Int.reduceAdd, Int.reduceSub, Int.reduceMul, Int.reduceNeg, Nat.reduceAdd, Nat.reduceLeDiff, Nat.reduceEqDiff, ne_eq, List.length_cons, List.length_nil, Nat.reduceSub]
    rw [← hj] at g3 ⊢
    rw [cnt_all]
    refine hQ _ (g1.1.hs (c := 58) (j := 8) rfl) hs_same fun hc q hq => ?_
    obtain ⟨n1, n2⟩ := g3 q (Nat.zero_le q) hq
    have hq6 : q < 6 := Nat.lt_of_lt_of_le hq hnR
    rw [(c2 q hq6).1] at n1
    rw [(c2 q hq6).2] at n2
    rw [hs_ne' (by decide), hs_ne' (by decide)]
    exact ⟨lst_of hq hc n1, mst_of hq hc n2⟩
  · intro r hr ih H3 c1 c2 c3
    have f := trF hI c1
    have k1 : ¬ (nU V : Int) ≤ r := by clear z1 f hQ c2 c3 ih; omega
    have jr : 0 ≤ (r : Int) ∧ (r : Int) < 8 := by clear z1 f hQ c2 c3 ih; omega
    have kr := w32_s (n := r) (by clear z1 f hQ c2 c3 ih; omega)
    have hw := hI.boat.rsw r hr
    have wg : w64 (-(V 104 (8 + r))) = gp0 V r := w64_id (by clear z1 f hQ c2 c3 ih kr; omega) (by clear z1 f hQ c2 c3 ih kr; omega)
    have hX : Fx sTR V (hs H3 59 r (gp0 V r)) := c1.hs (c := 59) rfl
    rw [e_TR_countRows_1]
    simp only [k_TR_countRows_1, rr, sh, Nat.reduceLT, Nat.reduceMul, Int.reduceToNat, Int.reduceGT, Int.reduceGE, Int.reduceNe, true_and, and_true, true_or, or_true, false_or, or_false, and_self, or_self, if_true, if_false, reduceIte, not_true_eq_false, not_false_eq_true, Int.reduceEq, Int.reduceNe, Int.reduceLT, Int.reduceLE, Int.reduceAdd, Int.reduceSub, Int.reduceMul, Int.reduceNeg, Nat.reduceAdd, Nat.reduceLeDiff, Nat.reduceEqDiff, ne_eq, List.length_cons, List.length_nil, Nat.reduceSub, z1, f.2.2.2.2.2.2.2.2, k1, f.1, q_swT hI c1 hr, wg, jr]
    refine c_setBounds (d := d + nR V) hI hX hnR hr fun H4 g1 g59 g64 g65 g5 g6 => ?_
    simp only [rr, sh, Nat.reduceLT, Nat.reduceMul, Int.reduceToNat, Int.reduceGT, Int.reduceGE, Int.reduceNe, true_and, and_true, true_or, or_true, false_or, or_false, and_self, or_self, if_true, if_false, reduceIte, not_true_eq_false, not_false_eq_true, Int.reduceEq, Int.reduceNe, Int.reduceLT, Int.reduceLE, Int.reduceAdd, Int.reduceSub, Int.reduceMul, Int.reduceNeg, Nat.reduceAdd, Nat.reduceLeDiff, Nat.reduceEqDiff, ne_eq, List.length_cons, List.length_nil, Nat.reduceSub, kr]
    refine ih H4 g1 (fun k hk => ?_) (fun r' hr' => ?_)
    · rw [g64, g65, hs_ne' (by decide), hs_ne' (by decide)]; exact c2 k hk
    · rw [g59, hs_at]
      by_cases e : r' = r
      · subst e; rw [if_pos rfl]; exact ⟨rfl, g6⟩
      · have hlt : r' < r := Nat.lt_of_le_of_ne (Nat.le_of_lt_succ hr') e
        rw [if_neg (fun z => e (Int.ofNat_inj.mp z))]
        refine ⟨(c3 r' hlt).1, g5 r' hlt ?_⟩
        obtain ⟨q1, q2⟩ := (c3 r' hlt).2
        exact ⟨fun k k1 k2 => by rw [hs_ne' (by decide)]; exact q1 k k1 k2, fun k k1 k2 => by rw [hs_ne' (by decide), hs_ne' (by decide)]; exact q2 k k1 k2⟩
set_option maxRecDepth 20000 in
theorem c_strengthsC (hI : Inq V) (hT : TriR V) {d : Nat} {Q : AV → Hp → Prop} {r w : Int} (hno : ¬ strOk V r w → Q (vi (-1)) V) (hQ : strOk V r w → ∀ H', Fx sTR V H' → TrO V H' → Q (vi (strA V (H' 64 r) (H' 65 r) w)) H') : CC (d + 20) EO_strengths [va 1, vi r, vi w] V Q := by
  have p1 : V 1 1 = 4 := hI.ptr (1, 1, 4) (by decide +kernel)
  have p8 : V 1 8 = 58 := hI.ptr (1, 8, 58) (by decide +kernel)
  have e6 := hI.plan.rowers
  have z1 := shp hI
  by_cases a1 : nR V ≤ 6
  · have c1 : ¬ 6 < (nR V : Int) := by clear z1 e6; omega
    by_cases a2 : 0 ≤ r ∧ r < nR V
    · have c2 : ¬ 6 ≤ r := by clear z1 e6; omega
      have j2 : 0 ≤ r ∧ r < 6 := by clear z1 e6; omega
      by_cases a3 : w < 0
      · simp only [en_EO_strengths, e_EO_strengths_0, k_EO_strengths_0, en_TR_told, e_TR_told_0, k_TR_told_0, e_TR_told_1, k_TR_told_1, rr, sh, Nat.reduceLT, Nat.reduceMul, Int.reduceToNat, Int.reduceGT, Int.reduceGE, Int.reduceNe, true_and, and_true, true_or, or_true, false_or, or_false, and_self, or_self, if_true, if_false, reduceIte, not_true_eq_false, not_false_eq_true, Int.reduceEq, Int.reduceNe, Int.reduceLT, Int.reduceLE, Int.reduceAdd, Int.reduceSub, Int.reduceMul, Int.reduceNeg, Nat.reduceAdd, Nat.reduceLeDiff, Nat.reduceEqDiff, ne_eq, List.length_cons, List.length_nil, Nat.reduceSub, p1, p8, z1, e6, c1, q_isRower z1, a2, c2, a3]
        exact hno (fun z => by have := z.2.2.1; omega)
      · by_cases a4 : w ≤ 2
        · have hok : strOk V r w := ⟨a1, a2, by clear z1 e6; omega, a4⟩
          have hn0 : 0 < nR V := by clear z1 e6; omega
          have fin : ∀ H', Fx sTR V H' → TrO V H' → R (d + 19) TR_told (blk TR_told 3) [va 58, va (V 4 0), vi r, vi w] [] H' (fun r1 H1 => R (d + 19 + 1) EO_strengths [x_ri] [va 1, vi r, vi w] [r1] H1 Q) := fun H' g1 g2 => by
            have hA := hQ hok H' g1 g2
            obtain ⟨o7, o8, o9⟩ := g2
            have f := trF hI g1
            unfold strA at hA
            by_cases w0 : w = 0
            · subst w0
              rw [if_pos rfl] at hA
              simp only [e_TR_told_3, k_TR_told_3, rr, sh, Nat.reduceLT, Nat.reduceMul, Int.reduceToNat, Int.reduceGT, Int.reduceGE, Int.reduceNe, true_and, and_true, true_or, or_true, false_or, or_false, and_self, or_self, if_true, if_false, reduceIte, not_true_eq_false, not_false_eq_true, Int.reduceEq, Int.reduceNe, Int.reduceLT, Int.reduceLE, Int.reduceAdd, Int.reduceSub, Int.reduceMul, Int.reduceNeg, Nat.reduceAdd, Nat.reduceLeDiff, Nat.reduceEqDiff, ne_eq, List.length_cons, List.length_nil, Nat.reduceSub, o8]
              exact hA
            · rw [if_neg w0] at hA
              by_cases c0 : cntV V = 0
              · rw [if_pos c0] at hA
                simp only [e_TR_told_3, k_TR_told_3, e_TR_told_4, k_TR_told_4, rr, sh, Nat.reduceLT, Nat.reduceMul, Int.reduceToNat, Int.reduceGT, Int.reduceGE, Int.reduceNe, true_and, and_true, true_or, or_true, false_or, or_false, and_self, or_self, if_true, if_false, reduceIte, not_true_eq_false, not_false_eq_true, Int.reduceEq, Int.reduceNe, Int.reduceLT, Int.reduceLE, Int.reduceAdd, Int.reduceSub, Int.reduceMul, Int.reduceNeg, Nat.reduceAdd, Nat.reduceLeDiff, Nat.reduceEqDiff, ne_eq, List.length_cons, List.length_nil, Nat.reduceSub, w0, o8, c0]
                exact hA
              · rw [if_neg c0] at hA
                by_cases w1 : w = 1
                · rw [if_pos w1] at hA
                  subst w1
                  simp only [e_TR_told_3, k_TR_told_3, e_TR_told_4, k_TR_told_4, e_TR_told_5, k_TR_told_5, e_TR_told_6, k_TR_told_6, e_TR_told_7, k_TR_told_7, rr, sh, Nat.reduceLT, Nat.reduceMul, Int.reduceToNat, Int.reduceGT, Int.reduceGE, Int.reduceNe, true_and, and_true, true_or, or_true, false_or, or_false, and_self, or_self, if_true, if_false, reduceIte, not_true_eq_false, not_false_eq_true, Int.reduceEq, Int.reduceNe, Int.reduceLT, Int.reduceLE, Int.reduceAdd, Int.reduceSub, Int.reduceMul, Int.reduceNeg, Nat.reduceAdd, Nat.reduceLeDiff, Nat.reduceEqDiff, ne_eq, List.length_cons, List.length_nil, Nat.reduceSub, o8, c0, f.2.2.2.2.1, j2]
                  exact hA
                · rw [if_neg w1] at hA
                  simp only [e_TR_told_3, k_TR_told_3, e_TR_told_4, k_TR_told_4, e_TR_told_5, k_TR_told_5, e_TR_told_6, k_TR_told_6, e_TR_told_7, k_TR_told_7, rr, sh, Nat.reduceLT, Nat.reduceMul, Int.reduceToNat, Int.reduceGT, Int.reduceGE, Int.reduceNe, true_and, and_true, true_or, or_true, false_or, or_false, and_self, or_self, if_true, if_false, reduceIte, not_true_eq_false, not_false_eq_true, Int.reduceEq, Int.reduceNe, Int.reduceLT, Int.reduceLE, Int.reduceAdd, Int.reduceSub, Int.reduceMul, Int.reduceNeg, Nat.reduceAdd, Nat.reduceLeDiff, Nat.reduceEqDiff, ne_eq, List.length_cons, List.length_nil, Nat.reduceSub, w0, o8, c0, w1, f.2.2.2.2.2.1, j2]
                  exact hA
          rcases hT with h7 | ⟨h7, h6, h8, h9⟩
          · simp only [en_EO_strengths, e_EO_strengths_0, k_EO_strengths_0, en_TR_told, e_TR_told_0, k_TR_told_0, e_TR_told_2, k_TR_told_2, rr, sh, Nat.reduceLT, Nat.reduceMul, Int.reduceToNat, Int.reduceGT, Int.reduceGE, Int.reduceNe, true_and, and_true, true_or, or_true, false_or, or_false, and_self, or_self, if_true, if_false, reduceIte, not_true_eq_false, not_false_eq_true, Int.reduceEq, Int.reduceNe, Int.reduceLT, Int.reduceLE, Int.reduceAdd, Int.reduceSub, Int.reduceMul, Int.reduceNeg, Nat.reduceAdd, Nat.reduceLeDiff, Nat.reduceEqDiff, ne_eq, List.length_cons, List.length_nil, Nat.reduceSub, p1, p8, z1, e6, c1, q_isRower z1, a2, c2, a3, a4, h7]
            have hdd : d + 18 = (d + 14 - nR V) + nR V + 4 := by clear z1 e6 fin hQ hno; omega
            refine CC_d hdd (c_countRows hI a1 hn0 (d := d + 14 - nR V) fun H1 g1 g2 g3 => ?_)
            try simp only [rr, sh, Nat.reduceLT, Nat.reduceMul, Int.reduceToNat, Int.reduceGT, Int.reduceGE, Int.reduceNe, true_and, and_true, true_or, or_true, false_or, or_false, and_self, or_self, if_true, if_false, reduceIte, not_true_eq_false, not_false_eq_true, Int.reduceEq, Int.reduceNe, Int.reduceLT, Int.reduceLE, Int.reduceAdd, Int.reduceSub, Int.reduceMul, Int.reduceNeg, Nat.reduceAdd, Nat.reduceLeDiff, Nat.reduceEqDiff, ne_eq, List.length_cons, List.length_nil, Nat.reduceSub]
            exact fin _ (g1.hs (c := 58) (j := 7) rfl) ⟨hs_same, (hs2 (by decide)).trans g2, fun hc q hq => by rw [hs_ne' (by decide), hs_ne' (by decide)]; exact g3 hc q hq⟩
          · simp only [en_EO_strengths, e_EO_strengths_0, k_EO_strengths_0, en_TR_told, e_TR_told_0, k_TR_told_0, e_TR_told_2, k_TR_told_2, rr, sh, Nat.reduceLT, Nat.reduceMul, Int.reduceToNat, Int.reduceGT, Int.reduceGE, Int.reduceNe, true_and, and_true, true_or, or_true, false_or, or_false, and_self, or_self, if_true, if_false, reduceIte, not_true_eq_false, not_false_eq_true, Int.reduceEq, Int.reduceNe, Int.reduceLT, Int.reduceLE, Int.reduceAdd, Int.reduceSub, Int.reduceMul, Int.reduceNeg, Nat.reduceAdd, Nat.reduceLeDiff, Nat.reduceEqDiff, ne_eq, List.length_cons, List.length_nil, Nat.reduceSub, p1, p8, z1, e6, c1, q_isRower z1, a2, c2, a3, a4, h7]
            exact fin V Fx.rf ⟨h7, h8, h9⟩
        · simp only [en_EO_strengths, e_EO_strengths_0, k_EO_strengths_0, en_TR_told, e_TR_told_0, k_TR_told_0, e_TR_told_1, k_TR_told_1, rr, sh, Nat.reduceLT, Nat.reduceMul, Int.reduceToNat, Int.reduceGT, Int.reduceGE, Int.reduceNe, true_and, and_true, true_or, or_true, false_or, or_false, and_self, or_self, if_true, if_false, reduceIte, not_true_eq_false, not_false_eq_true, Int.reduceEq, Int.reduceNe, Int.reduceLT, Int.reduceLE, Int.reduceAdd, Int.reduceSub, Int.reduceMul, Int.reduceNeg, Nat.reduceAdd, Nat.reduceLeDiff, Nat.reduceEqDiff, ne_eq, List.length_cons, List.length_nil, Nat.reduceSub, p1, p8, z1, e6, c1, q_isRower z1, a2, c2, a3, a4]
          exact hno (fun z => a4 z.2.2.2)
    · simp only [en_EO_strengths, e_EO_strengths_0, k_EO_strengths_0, en_TR_told, e_TR_told_0, k_TR_told_0, e_TR_told_1, k_TR_told_1, rr, sh, Nat.reduceLT, Nat.reduceMul, Int.reduceToNat, Int.reduceGT, Int.reduceGE, Int.reduceNe, true_and, and_true, true_or, or_true, false_or, or_false, and_self, or_self, if_true, if_false, reduceIte, not_true_eq_false, not_false_eq_true, Int.reduceEq, Int.reduceNe, Int.reduceLT, Int.reduceLE, Int.reduceAdd, Int.reduceSub, Int.reduceMul, Int.reduceNeg, Nat.reduceAdd, Nat.reduceLeDiff, Nat.reduceEqDiff, ne_eq, List.length_cons, List.length_nil, Nat.reduceSub, p1, p8, z1, e6, c1, q_isRower z1, a2]
      exact hno (fun z => a2 z.2.1)
  · have c1 : 6 < (nR V : Int) := by clear z1 e6; omega
    simp only [en_EO_strengths, e_EO_strengths_0, k_EO_strengths_0, en_TR_told, e_TR_told_0, k_TR_told_0, e_TR_told_1, k_TR_told_1, rr, sh, Nat.reduceLT, Nat.reduceMul, Int.reduceToNat, Int.reduceGT, Int.reduceGE, Int.reduceNe, true_and, and_true, true_or, or_true, false_or, or_false, and_self, or_self, if_true, if_false, reduceIte, not_true_eq_false, not_false_eq_true, Int.reduceEq, Int.reduceNe, Int.reduceLT, Int.reduceLE, Int.reduceAdd, Int.reduceSub, Int.reduceMul, Int.reduceNeg, Nat.reduceAdd, Nat.reduceLeDiff, Nat.reduceEqDiff, ne_eq, List.length_cons, List.length_nil, Nat.reduceSub, p1, p8, z1, e6, c1]
    exact hno (fun z => a1 z.1)
end TA
