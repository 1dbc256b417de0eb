/-! under: the class, whole; the pair -/
section UP
variable {d : Nat} {V H : Hp} {Q : AV → Hp → Prop}
theorem CSu_ne {n : Nat} (h0 : 0 ≤ V 71 47 ∧ V 71 47 ≤ 9999) (h : 2 ≤ nS V) (hn : 1 ≤ n) (hn2 : n ≤ 100) {x : Int} (hx : MinOf (CSu V n) x) : x ≠ -1 := by
  rcases hx with ⟨h1, h2⟩ | ⟨h1, -⟩
  · exact absurd ⟨0, 1, by decide, h, 0, (ntn_b h0 hn hn2).1, rfl⟩ (h2 (keyU (wU V 0 1 n 0) (stU V 0) (12 * ((0 : Nat) : Int) + ((1 : Nat) : Int))))
  · omega
set_option maxRecDepth 20000 in
theorem c_underC (hI : Inq V) (hH : Vw V H) {n w : Int} (hno : ¬ undOk V n w → ∀ H', Vw V H' → Q (vl (-1)) H') (hQ : undOk V n w → ∀ H' x, Vw V H' → MinOf (CSu V n.toNat) x → Q (vl (undA x w)) H') : CC (d + 6) EO_under [va 1, vi n, vi w] H Q := by
  have hnS := hI.boat.s
  have h0 := hI.plan.1
  have p1 : V 1 1 = 4 := hI.ptr (1, 1, 4) (by decide +kernel)
  have p7 : V 1 7 = 54 := hI.ptr (1, 7, 54) (by decide +kernel)
  have f : ∀ {H}, Vw V H → H 1 1 = 4 ∧ H 1 7 = 54 ∧ H 4 0 = V 4 0 ∧ H (V 4 0) 0 = nS V := fun {H} h => by
    refine ⟨(h 1 1 rfl).trans p1, (h 1 7 rfl).trans p7, h 4 0 rfl, ?_⟩
    rw [← h0]
    refine h _ _ ?_
    rcases hI.pp with e | e <;> rw [e] <;> rfl
  by_cases a1 : n < 1
  · simp only [en_EO_under, e_EO_under_0, k_EO_under_0, e_EO_under_1, k_EO_under_1, rr, sh, Nat.reduceLT, Nat.reduceMul, Int.reduceToNat, Int.reduceGT, Int.reduceGE, Int.reduceNe, true_and, and_true, true_or, or_true, false_or, or_false, and_self, or_self, if_true, if_false, reduceIte, not_true_eq_false, not_false_eq_true, Int.reduceEq, Int.reduceNe, Int.reduceLT, Int.reduceLE, Int.reduceAdd, Int.reduceSub, Int.reduceMul, Int.reduceNeg, Nat.reduceAdd, Nat.reduceLeDiff, Nat.reduceEqDiff, ne_eq, List.length_cons, List.length_nil, Nat.reduceSub, a1]
    exact hno (fun z => by have := z.1.1; omega) H hH
  · by_cases a2 : 100 < n
    · simp only [en_EO_under, e_EO_under_0, k_EO_under_0, e_EO_under_1, k_EO_under_1, rr, sh, Nat.reduceLT, Nat.reduceMul, Int.reduceToNat, Int.reduceGT, Int.reduceGE, Int.reduceNe, true_and, and_true, true_or, or_true, false_or, or_false, and_self, or_self, if_true, if_false, reduceIte, not_true_eq_false, not_false_eq_true, Int.reduceEq, Int.reduceNe, Int.reduceLT, Int.reduceLE, Int.reduceAdd, Int.reduceSub, Int.reduceMul, Int.reduceNeg, Nat.reduceAdd, Nat.reduceLeDiff, Nat.reduceEqDiff, ne_eq, List.length_cons, List.length_nil, Nat.reduceSub, a1, a2]
      exact hno (fun z => by have := z.1.2; omega) H hH
    · by_cases a3 : w < 0
      · simp only [en_EO_under, e_EO_under_0, k_EO_under_0, e_EO_under_1, k_EO_under_1, rr, sh, Nat.reduceLT, Nat.reduceMul, Int.reduceToNat, Int.reduceGT, Int.reduceGE, Int.reduceNe, true_and, and_true, true_or, or_true, false_or, or_false, and_self, or_self, if_true, if_false, reduceIte, not_true_eq_false, not_false_eq_true, Int.reduceEq, Int.reduceNe, Int.reduceLT, Int.reduceLE, Int.reduceAdd, Int.reduceSub, Int.reduceMul, Int.reduceNeg, Nat.reduceAdd, Nat.reduceLeDiff, Nat.reduceEqDiff, ne_eq, List.length_cons, List.length_nil, Nat.reduceSub, a1, a2, a3]
        exact hno (fun z => by have := z.2.1.1; omega) H hH
      · by_cases a4 : 3 < w
        · simp only [en_EO_under, e_EO_under_0, k_EO_under_0, e_EO_under_1, k_EO_under_1, rr, sh, Nat.reduceLT, Nat.reduceMul, Int.reduceToNat, Int.reduceGT, Int.reduceGE, Int.reduceNe, true_and, and_true, true_or, or_true, false_or, or_false, and_self, or_self, if_true, if_false, reduceIte, not_true_eq_false, not_false_eq_true, Int.reduceEq, Int.reduceNe, Int.reduceLT, Int.reduceLE, Int.reduceAdd, Int.reduceSub, Int.reduceMul, Int.reduceNeg, Nat.reduceAdd, Nat.reduceLeDiff, Nat.reduceEqDiff, ne_eq, List.length_cons, List.length_nil, Nat.reduceSub, a1, a2, a3, a4]
          exact hno (fun z => by have := z.2.1.2; omega) H hH
        · have z1 := shp hI
          by_cases h3 : 2 ≤ nS V
          · have h3' : (2 : Int) ≤ nS V := by clear z1; omega
            obtain ⟨m, rfl⟩ := Int.eq_ofNat_of_zero_le (show 0 ≤ n by clear z1; omega)
            rw [Int.toNat_natCast] at hQ
            have hm1 : 1 ≤ m := by clear z1; omega
            have hm : m ≤ 100 := by clear z1; omega
            have hQ := hQ ⟨by clear z1 hQ; omega, by clear z1 hQ; omega, h3⟩
            have w4 : w = 0 ∨ w = 1 ∨ w = 2 ∨ w = 3 := by clear z1 hQ hno; omega
            clear hno
            simp only [en_EO_under, e_EO_under_0, k_EO_under_0, en_RA_findUnderWay, e_RA_findUnderWay_0, k_RA_findUnderWay_0, e_RA_findUnderWay_1, k_RA_findUnderWay_1, rr, sh, Nat.reduceLT, Nat.reduceMul, Int.reduceToNat, Int.reduceGT, Int.reduceGE, Int.reduceNe, true_and, and_true, true_or, or_true, false_or, or_false, and_self, or_self, if_true, if_false, reduceIte, not_true_eq_false, not_false_eq_true, Int.reduceEq, Int.reduceNe, Int.reduceLT, Int.reduceLE, Int.reduceAdd, Int.reduceSub, Int.reduceMul, Int.reduceNeg, Nat.reduceAdd, Nat.reduceLeDiff, Nat.reduceEqDiff, ne_eq, List.length_cons, List.length_nil, Nat.reduceSub, a1, a2, a3, a4, (f hH).1, (f hH).2.1, (f hH).2.2.1, (f hH).2.2.2, z1, h3']
            refine c_sail (d := d) hI hH hm1 hm fun H1 e1 e2 => ?_
            refine up_nat (P := fun a => ∀ x H' (y : AV), Vw V H' → SwT V H' m → MinOf (PSt (KCu V m) (nS V) a (a + 1)) x → CSt H' x (12 * a) → R (d + 5) RA_findUnderWay (blk RA_findUnderWay 2) [va 54, va 4, vi m, vi a, y] [] H' _) ?_ ?_ 0 (Nat.zero_le (nS V)) (-1) _ vu (e1.hs (c := 54) (j := 3) rfl) (fun j hj => by rw [hs_ne' (by decide), hs_ne' (by decide)]; exact e2 j hj) (Or.inl ⟨rfl, fun z => PSt_0 _ _ z⟩) (Or.inl ⟨rfl, hs_same⟩)
            · intro x H' y b1 bT b2 b3
              have hx : MinOf (CSu V m) x := b2.cg fun z => PSt_end _ z
              have hne := CSu_ne hI.crew.stroke h3 hm1 hm hx
              have hA := hQ H' x b1 hx
              rw [e_RA_findUnderWay_2]
              rcases b3 with ⟨x1, -⟩ | ⟨v, s, a, b, x1, xv, xs, xa, xb, xp, z3, z5, z6, z7⟩
              · exact absurd x1 hne
              · obtain ⟨u0, u1, u2, u3⟩ := undA_k (v := v) xs (p := 12 * a + b) (by clear z1 hQ hA b2; omega)
                rw [show (12 * a + b) / 12 = a by clear z1 hQ hA b2 u0 u1 u2 u3; omega] at u2
                rw [show (12 * a + b) % 12 = b by clear z1 hQ hA b2 u0 u1 u2 u3; omega] at u3
                rw [x1] at hA
                rcases w4 with rfl | rfl | rfl | rfl
                · rw [u0] at hA
                  simp only [k_RA_findUnderWay_2, e_RA_findUnderWay_5, k_RA_findUnderWay_5, e_EO_under_2, k_EO_under_2, e_EO_under_3, k_EO_under_3, e_EO_under_4, k_EO_under_4, e_EO_under_5, k_EO_under_5, e_EO_under_6, k_EO_under_6, rr, sh, Nat.reduceLT, Nat.reduceMul, Int.reduceToNat, Int.reduceGT, Int.reduceGE, Int.reduceNe, true_and, and_true, true_or, or_true, false_or, or_false, and_self, or_self, if_true, if_false, reduceIte, not_true_eq_false, not_false_eq_true, Int.reduceEq, Int.reduceNe, Int.reduceLT, Int.reduceLE, Int.reduceAdd, Int.reduceSub, Int.reduceMul, Int.reduceNeg, Nat.reduceAdd, Nat.reduceLeDiff, Nat.reduceEqDiff, ne_eq, List.length_cons, List.length_nil, Nat.reduceSub, (f b1).2.2.1, (f b1).2.2.2, z1, Int.le_refl, (f b1).2.1, z3]
                  exact hA
                · rw [u1] at hA
                  simp only [k_RA_findUnderWay_2, e_RA_findUnderWay_5, k_RA_findUnderWay_5, e_EO_under_2, k_EO_under_2, e_EO_under_3, k_EO_under_3, e_EO_under_4, k_EO_under_4, e_EO_under_5, k_EO_under_5, e_EO_under_6, k_EO_under_6, rr, sh, Nat.reduceLT, Nat.reduceMul, Int.reduceToNat, Int.reduceGT, Int.reduceGE, Int.reduceNe, true_and, and_true, true_or, or_true, false_or, or_false, and_self, or_self, if_true, if_false, reduceIte, not_true_eq_false, not_false_eq_true, Int.reduceEq, Int.reduceNe, Int.reduceLT, Int.reduceLE, Int.reduceAdd, Int.reduceSub, Int.reduceMul, Int.reduceNeg, Nat.reduceAdd, Nat.reduceLeDiff, Nat.reduceEqDiff, ne_eq, List.length_cons, List.length_nil, Nat.reduceSub, (f b1).2.2.1, (f b1).2.2.2, z1, Int.le_refl, (f b1).2.1, z5]
                  exact hA
                · rw [u2] at hA
                  simp only [k_RA_findUnderWay_2, e_RA_findUnderWay_5, k_RA_findUnderWay_5, e_EO_under_2, k_EO_under_2, e_EO_under_3, k_EO_under_3, e_EO_under_4, k_EO_under_4, e_EO_under_5, k_EO_under_5, e_EO_under_6, k_EO_under_6, rr, sh, Nat.reduceLT, Nat.reduceMul, Int.reduceToNat, Int.reduceGT, Int.reduceGE, Int.reduceNe, true_and, and_true, true_or, or_true, false_or, or_false, and_self, or_self, if_true, if_false, reduceIte, not_true_eq_false, not_false_eq_true, Int.reduceEq, Int.reduceNe, Int.reduceLT, Int.reduceLE, Int.reduceAdd, Int.reduceSub, Int.reduceMul, Int.reduceNeg, Nat.reduceAdd, Nat.reduceLeDiff, Nat.reduceEqDiff, ne_eq, List.length_cons, List.length_nil, Nat.reduceSub, (f b1).2.2.1, (f b1).2.2.2, z1, Int.le_refl, (f b1).2.1, z6]
                  exact hA
                · rw [u3] at hA
                  simp only [k_RA_findUnderWay_2, e_RA_findUnderWay_5, k_RA_findUnderWay_5, e_EO_under_2, k_EO_under_2, e_EO_under_3, k_EO_under_3, e_EO_under_4, k_EO_under_4, e_EO_under_5, k_EO_under_5, e_EO_under_6, k_EO_under_6, rr, sh, Nat.reduceLT, Nat.reduceMul, Int.reduceToNat, Int.reduceGT, Int.reduceGE, Int.reduceNe, true_and, and_true, true_or, or_true, false_or, or_false, and_self, or_self, if_true, if_false, reduceIte, not_true_eq_false, not_false_eq_true, Int.reduceEq, Int.reduceNe, Int.reduceLT, Int.reduceLE, Int.reduceAdd, Int.reduceSub, Int.reduceMul, Int.reduceNeg, Nat.reduceAdd, Nat.reduceLeDiff, Nat.reduceEqDiff, ne_eq, List.length_cons, List.length_nil, Nat.reduceSub, (f b1).2.2.1, (f b1).2.2.2, z1, Int.le_refl, (f b1).2.1, z7]
                  exact hA
            · intro a ha ih x H' y b1 bT b2 b3
              have c1 : ¬ (nS V : Int) ≤ a := by clear ih b2 b3 hQ z1; omega
              have kw := w32_s (n := a) (by clear ih b2 b3 hQ z1; omega)
              rw [e_RA_findUnderWay_2]
              simp only [k_RA_findUnderWay_2, rr, sh, Nat.reduceLT, Nat.reduceMul, Int.reduceToNat, Int.reduceGT, Int.reduceGE, Int.reduceNe, true_and, and_true, true_or, or_true, false_or, or_false, and_self, or_self, if_true, if_false, reduceIte, not_true_eq_false, not_false_eq_true, Int.reduceEq, Int.reduceNe, Int.reduceLT, Int.reduceLE, Int.reduceAdd, Int.reduceSub, Int.reduceMul, Int.reduceNeg, Nat.reduceAdd, Nat.reduceLeDiff, Nat.reduceEqDiff, ne_eq, List.length_cons, List.length_nil, Nat.reduceSub, (f b1).2.2.1, (f b1).2.2.2, z1, c1, kw]
              refine up_nat (P := fun b => a < b → ∀ x H', Vw V H' → SwT V H' m → MinOf (PSt (KCu V m) (nS V) a b) x → CSt H' x (12 * a + b) → R (d + 5) RA_findUnderWay (blk RA_findUnderWay 3) [va 54, va 4, vi m, vi a, vi b] [] H' _) ?_ ?_ (a + 1) ha (Nat.lt_succ_self a) x H' b1 bT b2 (b3.mono (by clear ih b2 b3 hQ z1 kw; omega))
              · intro _ x H' b1 bT b2 b3
                rw [e_RA_findUnderWay_3]
                simp only [k_RA_findUnderWay_3, e_RA_findUnderWay_4, k_RA_findUnderWay_4, rr, sh, Nat.reduceLT, Nat.reduceMul, Int.reduceToNat, Int.reduceGT, Int.reduceGE, Int.reduceNe, true_and, and_true, true_or, or_true, false_or, or_false, and_self, or_self, if_true, if_false, reduceIte, not_true_eq_false, not_false_eq_true, Int.reduceEq, Int.reduceNe, Int.reduceLT, Int.reduceLE, Int.reduceAdd, Int.reduceSub, Int.reduceMul, Int.reduceNeg, Nat.reduceAdd, Nat.reduceLeDiff, Nat.reduceEqDiff, ne_eq, List.length_cons, List.length_nil, Nat.reduceSub, (f b1).2.2.1, (f b1).2.2.2, z1, Int.le_refl, kw]
                exact ih x H' _ b1 bT (b2.cg fun z => PSt_row _ z) (b3.mono (by clear ih b2 b3 hQ z1 kw; omega))
              · intro b hb ihb hab x H' b1 bT b2 b3
                have c2 : ¬ (nS V : Int) ≤ b := by clear ih ihb b2 b3 hQ kw z1; omega
                have kb := w32_s (n := b) (by clear ih ihb b2 b3 hQ kw z1; omega)
                rw [e_RA_findUnderWay_3]
                simp only [k_RA_findUnderWay_3, rr, sh, Nat.reduceLT, Nat.reduceMul, Int.reduceToNat, Int.reduceGT, Int.reduceGE, Int.reduceNe, true_and, and_true, true_or, or_true, false_or, or_false, and_self, or_self, if_true, if_false, reduceIte, not_true_eq_false, not_false_eq_true, Int.reduceEq, Int.reduceNe, Int.reduceLT, Int.reduceLE, Int.reduceAdd, Int.reduceSub, Int.reduceMul, Int.reduceNeg, Nat.reduceAdd, Nat.reduceLeDiff, Nat.reduceEqDiff, ne_eq, List.length_cons, List.length_nil, Nat.reduceSub, (f b1).2.2.1, (f b1).2.2.2, z1, c2]
                refine c_tryChange (d := d + 1) hI b1 hab hb hm1 hm bT b2 b3 fun H2 x2 f1 f2 f3 f4 => ?_
                simp only [rr, sh, Nat.reduceLT, Nat.reduceMul, Int.reduceToNat, Int.reduceGT, Int.reduceGE, Int.reduceNe, true_and, and_true, true_or, or_true, false_or, or_false, and_self, or_self, if_true, if_false, reduceIte, not_true_eq_false, not_false_eq_true, Int.reduceEq, Int.reduceNe, Int.reduceLT, Int.reduceLE, Int.reduceAdd, Int.reduceSub, Int.reduceMul, Int.reduceNeg, Nat.reduceAdd, Nat.reduceLeDiff, Nat.reduceEqDiff, ne_eq, List.length_cons, List.length_nil, Nat.reduceSub, kb]
                exact ihb (Nat.lt_succ_of_lt hab) x2 H2 f1 f2 (f3.cg fun z => PSt_step (KCu V m) hab hb z) (f4.mono (by clear ih ihb b2 b3 hQ kw z1 kb; omega))
          · have h3' : ¬ (2 : Int) ≤ nS V := by clear z1; omega
            simp only [en_EO_under, e_EO_under_0, k_EO_under_0, e_EO_under_1, k_EO_under_1, en_RA_findUnderWay, e_RA_findUnderWay_0, k_RA_findUnderWay_0, rr, sh, Nat.reduceLT, Nat.reduceMul, Int.reduceToNat, Int.reduceGT, Int.reduceGE, Int.reduceNe, true_and, and_true, true_or, or_true, false_or, or_false, and_self, or_self, if_true, if_false, reduceIte, not_true_eq_false, not_false_eq_true, Int.reduceEq, Int.reduceNe, Int.reduceLT, Int.reduceLE, Int.reduceAdd, Int.reduceSub, Int.reduceMul, Int.reduceNeg, Nat.reduceAdd, Nat.reduceLeDiff, Nat.reduceEqDiff, ne_eq, List.length_cons, List.length_nil, Nat.reduceSub, a1, a2, a3, a4, (f hH).1, (f hH).2.1, (f hH).2.2.1, (f hH).2.2.2, z1, h3']
            exact hno (fun z => h3 z.2.2) H hH
end UP
theorem p_under {d : Nat} {V : Hp} (h : Inv0 V) {n w : Int} : Pair V (d + 10) EO_under MO_under [va 1, vi n, vi w] [va 71, vi n, vi w] := by
  have hst := h.q.crew.stroke
  refine c_underC (d := d + 4) h.q Vw.rf (fun hg H1 e1 => ?_) (fun hg H1 x e1 hx => ?_)
  · exact c_underM (d := d + 5) h.m e1 (fun _ H2 e2 => ⟨rfl, h.vw e2⟩) (fun z => absurd z hg)
  · refine c_underM (d := d + 5) h.m e1 (fun z => absurd hg z) (fun _ H2 y e2 hy => ⟨?_, h.vw e2⟩)
    rw [under_same hst.1 (by have := hg.1.1; omega) hy hx]
