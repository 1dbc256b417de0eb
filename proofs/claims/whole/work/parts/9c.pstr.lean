/-! strengths: the reference's rows; the pair -/
theorem new_l {V : Hp} {m q : Nat} {L L' : Int} (hf : fitT V (dgT m) = true) (h0 : cnN V m = 0 → L' = dgT m q) (h1 : cnN V m ≠ 0 → (∀ v : Int, L ≤ v ↔ ∃ m', m' < m ∧ fitT V (dgT m') = true ∧ dgT m' q ≤ v) ∧ L' = min L (dgT m q)) : ∀ v : Int, L' ≤ v ↔ ∃ m', m' < m + 1 ∧ fitT V (dgT m') = true ∧ dgT m' q ≤ v := fun v => by
  by_cases c : cnN V m = 0
  · rw [h0 c]
    constructor
    · intro z; exact ⟨m, Nat.lt_succ_self m, hf, z⟩
    · rintro ⟨m', m1, m2, m3⟩
      by_cases e : m' = m
      · rw [e] at m3; exact m3
      · exact absurd m2 (cnN_0 c m' (Nat.lt_of_le_of_ne (Nat.le_of_lt_succ m1) e))
  · obtain ⟨g1, g2⟩ := h1 c
    have g1 := g1 v
    rw [g2]
    constructor
    · intro z
      by_cases c2 : L ≤ v
      · obtain ⟨m', m1, m2, m3⟩ := g1.mp c2
        exact ⟨m', Nat.lt_succ_of_lt m1, m2, m3⟩
      · exact ⟨m, Nat.lt_succ_self m, hf, by clear g1; omega⟩
    · rintro ⟨m', m1, m2, m3⟩
      by_cases e : m' = m
      · rw [e] at m3; clear g1; omega
      · have := g1.mpr ⟨m', Nat.lt_of_le_of_ne (Nat.le_of_lt_succ m1) e, m2, m3⟩
        clear g1; omega
theorem new_m {V : Hp} {m q : Nat} {L L' : Int} (hf : fitT V (dgT m) = true) (h0 : cnN V m = 0 → L' = dgT m q) (h1 : cnN V m ≠ 0 → (∀ v : Int, v ≤ L ↔ ∃ m', m' < m ∧ fitT V (dgT m') = true ∧ v ≤ dgT m' q) ∧ L' = max L (dgT m q)) : ∀ v : Int, v ≤ L' ↔ ∃ m', m' < m + 1 ∧ fitT V (dgT m') = true ∧ v ≤ dgT m' q := fun v => by
  by_cases c : cnN V m = 0
  · rw [h0 c]
    constructor
    · intro z; exact ⟨m, Nat.lt_succ_self m, hf, z⟩
    · rintro ⟨m', m1, m2, m3⟩
      by_cases e : m' = m
      · rw [e] at m3; exact m3
      · exact absurd m2 (cnN_0 c m' (Nat.lt_of_le_of_ne (Nat.le_of_lt_succ m1) e))
  · obtain ⟨g1, g2⟩ := h1 c
    have g1 := g1 v
    rw [g2]
    constructor
    · intro z
      by_cases c2 : v ≤ L
      · obtain ⟨m', m1, m2, m3⟩ := g1.mp c2
        exact ⟨m', Nat.lt_succ_of_lt m1, m2, m3⟩
      · exact ⟨m, Nat.lt_succ_self m, hf, by clear g1; omega⟩
    · rintro ⟨m', m1, m2, m3⟩
      by_cases e : m' = m
      · rw [e] at m3; clear g1; omega
      · have := g1.mpr ⟨m', Nat.lt_of_le_of_ne (Nat.le_of_lt_succ m1) e, m2, m3⟩
        clear g1; omega
theorem hs_self {H : Hp} {c j : Int} : hs H c j (H c j) = H := by
  funext a b
  rw [hs_app]
  by_cases h : a = c ∧ b = j
  · rw [if_pos h, h.1, h.2]
  · rw [if_neg h]
section TM
variable {V : Hp}
theorem optI_neg {o : Option Nat} : (optI o = -1) ↔ o = none := by
  cases o with
  | none => exact ⟨fun _ => rfl, fun _ => rfl⟩
  | some n => exact ⟨fun z => absurd z (by show ¬ (n : Int) = -1; omega), fun z => by cases z⟩
set_option maxRecDepth 20000 in
theorem c_fitting (hM : Inm V) (hnR : nR V ≤ 6) {d : Nat} {H : Hp} {Q : AV → Hp → Prop} (hH : Vw V H) (hT : Tri V H (tsV V) (taV V)) (hQ : ∀ H', Vw V H' → lmS V H' (9 ^ nR V) → Q (vi (cntV V)) H') : CC (d + 3) MO_fittingRows [va 71] H Q := by
  have hR := hM.boat.r
  have ha0 : ∀ k : Nat, k < nS V → 1 ≤ taV V k ∧ taV V k ≤ 99 := fun k hk => (hT.2 k hk).2
  have hA0 : ∀ k : Nat, k < nS V → H 116 k = taV V k := fun k hk => (hT.2 k hk).1
  have f : ∀ {H}, Vw V H → H 71 29 = 91 ∧ H 91 = V 91 ∧ H 71 66 = 115 ∧ H 71 68 = 117 ∧ H 71 69 = 118 := fun {H} h => ⟨(h 71 29 rfl).trans (hM.ptr (71, 29, 91) (by decide +kernel)), funext fun j => h 91 j rfl, (h 71 66 rfl).trans (hM.ptr (71, 66, 115) (by decide +kernel)), (h 71 68 rfl).trans (hM.ptr (71, 68, 117) (by decide +kernel)), (h 71 69 rfl).trans (hM.ptr (71, 69, 118) (by decide +kernel))⟩
  have hall : 9 ^ nR V ≤ 531441 := Nat.pow_le_pow_right (n := 9) (j := 6) (by decide) hnR
  simp only [en_MO_fittingRows, e_MO_fittingRows_0, k_MO_fittingRows_0, rr, sh, Nat.reduceLT, Nat.reduceMul, Int.reduceToNat, Int.reduceGT, Int.reduceGE, Int.reduceNe, true_and, and_true, true_or, or_true, false_or, or_false, and_self, or_self, if_true, if_false, reduceIte, not_true_eq_false, not_false_eq_true, Int.reduceEq, Int.reduceNe, Int.reduceLT, Int.reduceLE, Int.reduceAdd, Int.reduceSub, Int.reduceMul, Int.reduceNeg, Nat.reduceAdd, Nat.reduceLeDiff, Nat.reduceEqDiff, ne_eq, List.length_cons, List.length_nil, Nat.reduceSub]
  refine up_nat (P := fun i => R (d + 3) MO_fittingRows (blk MO_fittingRows 1) [va 71, vi 0, vi ((9 ^ i : Nat) : Int), vi i, vu, vu, vu] [] H Q) ?_ ?_ 0 (Nat.zero_le (nR V))
  · rw [e_MO_fittingRows_1]
    simp only [k_MO_fittingRows_1, e_MO_fittingRows_2, k_MO_fittingRows_2, en_MO_rowers, e_MO_rowers_0, k_MO_rowers_0, rr, sh, Nat.reduceLT, Nat.reduceMul, Int.reduceToNat, Int.reduceGT, Int.reduceGE, Int.reduceNe, true_and, and_true, true_or, or_true, false_or, or_false, and_self, or_self, if_true, if_false, reduceIte, not_true_eq_false, not_false_eq_true, Int.reduceEq, Int.reduceNe, Int.reduceLT, Int.reduceLE, Int.reduceAdd, Int.reduceSub, Int.reduceMul, Int.reduceNeg, Nat.reduceAdd, Nat.reduceLeDiff, Nat.reduceEqDiff, ne_eq, List.length_cons, List.length_nil, Nat.reduceSub, (f hH).1, (f hH).2.1, hR.1, Int.le_refl]
    refine up_nat (P := fun m => ∀ H' (y4 y5 y6 : AV), Vw V H' → (∀ k : Nat, k < nS V → H' 116 k = taV V k) → lmS V H' m → R (d + 3) MO_fittingRows (blk MO_fittingRows 3) [va 71, vi (cnN V m), vi ((9 ^ nR V : Nat) : Int), vi m, y4, y5, y6] [] H' Q) ?_ ?_ 0 (Nat.zero_le (9 ^ nR V)) H vu vu vu hH hA0 (fun z => absurd rfl z)
    · intro H1 y4 y5 y6 a1 a2 a3
      rw [e_MO_fittingRows_3]
      simp only [k_MO_fittingRows_3, e_MO_fittingRows_14, k_MO_fittingRows_14, rr, sh, Nat.reduceLT, Nat.reduceMul, Int.reduceToNat, Int.reduceGT, Int.reduceGE, Int.reduceNe, true_and, and_true, true_or, or_true, false_or, or_false, and_self, or_self, if_true, if_false, reduceIte, not_true_eq_false, not_false_eq_true, Int.reduceEq, Int.reduceNe, Int.reduceLT, Int.reduceLE, Int.reduceAdd, Int.reduceSub, Int.reduceMul, Int.reduceNeg, Nat.reduceAdd, Nat.reduceLeDiff, Nat.reduceEqDiff, ne_eq, List.length_cons, List.length_nil, Nat.reduceSub, Int.le_refl]
      exact hQ H1 a1 a3
    · intro m hm ih H1 y4 y5 y6 a1 a2 a3
      have c1 : ¬ ((9 ^ nR V : Nat) : Int) ≤ m := Int.not_le.mpr (Int.ofNat_lt.mpr hm)
      have m6 : m < 531441 := Nat.lt_of_lt_of_le hm hall
      have km := w32_s (n := m) (Nat.lt_trans m6 (by decide))
      rw [e_MO_fittingRows_3]
      simp only [k_MO_fittingRows_3, rr, sh, Nat.reduceLT, Nat.reduceMul, Int.reduceToNat, Int.reduceGT, Int.reduceGE, Int.reduceNe, true_and, and_true, true_or, or_true, false_or, or_false, and_self, or_self, if_true, if_false, reduceIte, not_true_eq_false, not_false_eq_true, Int.reduceEq, Int.reduceNe, Int.reduceLT, Int.reduceLE, Int.reduceAdd, Int.reduceSub, Int.reduceMul, Int.reduceNeg, Nat.reduceAdd, Nat.reduceLeDiff, Nat.reduceEqDiff, ne_eq, List.length_cons, List.length_nil, Nat.reduceSub, c1]
      have st4 := up_nat (P := fun k => ∀ H', Vw V H' → (∀ k : Nat, k < nS V → H' 116 k = taV V k) → lmS V H' m → (∀ q : Nat, q < k → H' 115 q = dgT m q) → R (d + 3) MO_fittingRows (blk MO_fittingRows 4) [va 71, vi (cnN V m), vi ((9 ^ nR V : Nat) : Int), vi m, vi ((m / 9 ^ k : Nat) : Int), vi k, y6] [] H' Q) (n := nR V) ?_ ?_ 0 (Nat.zero_le _) H1 a1 a2 a3 (fun q hq => absurd hq (Nat.not_lt_zero q))
      · rw [Nat.pow_zero, Nat.div_one] at st4
        exact st4
      · intro H2 b1 b2 b3 b4
        have hT2 : Tri V H2 (dgT m) (taV V) := ⟨fun k hk => ⟨b4 k hk, (dgT_rng m k).1, Int.le_trans (dgT_rng m k).2 (by decide)⟩, fun k hk => ⟨b2 k hk, ha0 k hk⟩⟩
        have huf := unf_fit hM hnR (t := dgT m) (dgT_rng m)
        have hcs : cnN V (m + 1) = cnN V m + if fitT V (dgT m) = true then 1 else 0 := rfl
        have hcr := cnN_rng V m
        rw [e_MO_fittingRows_4]
        by_cases hf : fitT V (dgT m) = true
        · have ho : optI (unfO V (dgT m) (taV V)) = -1 := optI_neg.mpr (huf.mpr hf)
          rw [if_pos hf] at hcs
          simp only [k_MO_fittingRows_4, e_MO_fittingRows_5, k_MO_fittingRows_5, e_MO_fittingRows_6, k_MO_fittingRows_6, en_MO_rowers, e_MO_rowers_0, k_MO_rowers_0, rr, sh, Nat.reduceLT, Nat.reduceMul, Int.reduceToNat, Int.reduceGT, Int.reduceGE, Int.reduceNe, true_and, and_true, true_or, or_true, false_or, or_false, and_self, or_self, if_true, if_false, reduceIte, not_true_eq_false, not_false_eq_true, Int.reduceEq, Int.reduceNe, Int.reduceLT, Int.reduceLE, Int.reduceAdd, Int.reduceSub, Int.reduceMul, Int.reduceNeg, Nat.reduceAdd, Nat.reduceLeDiff, Nat.reduceEqDiff, ne_eq, List.length_cons, List.length_nil, Nat.reduceSub, (f b1).1, (f b1).2.1, hR.1, Int.le_refl, q_firstUnfitM hM b1 hT2, ho]
          refine up_nat (P := fun k => ∀ H' (y : AV), Vw V H' → (∀ q : Nat, q < nS V → H' 116 q = taV V q) → H' 115 = H2 115 → (∀ q : Nat, q < k → (∀ v : Int, H' 117 q ≤ v ↔ ∃ m', m' < m + 1 ∧ fitT V (dgT m') = true ∧ dgT m' q ≤ v) ∧ ∀ v : Int, v ≤ H' 118 q ↔ ∃ m', m' < m + 1 ∧ fitT V (dgT m') = true ∧ v ≤ dgT m' q) → (∀ q : Nat, k ≤ q → H' 117 q = H2 117 q ∧ H' 118 q = H2 118 q) → R (d + 3) MO_fittingRows (blk MO_fittingRows 7) [va 71, vi (cnN V m), vi ((9 ^ nR V : Nat) : Int), vi m, vi ((m / 9 ^ nR V : Nat) : Int), vi k, y] [] H' Q) ?_ ?_ 0 (Nat.zero_le (nR V)) H2 y6 b1 b2 rfl (fun q hq => absurd hq (Nat.not_lt_zero q)) (fun _ _ => ⟨rfl, rfl⟩)
          · intro H3 y g1 g2 g3 g4 g5
            have wc : w32 (cnN V m + 1) = cnN V (m + 1) := by
              rw [hcs]
              exact w32_id (by clear ih hcs g4 huf ho; omega) (by clear ih hcs g4 huf ho; omega)
            rw [e_MO_fittingRows_7]
            simp only [k_MO_fittingRows_7, e_MO_fittingRows_12, k_MO_fittingRows_12, e_MO_fittingRows_13, k_MO_fittingRows_13, en_MO_rowers, e_MO_rowers_0, k_MO_rowers_0, rr, sh, Nat.reduceLT, Nat.reduceMul, Int.reduceToNat, Int.reduceGT, Int.reduceGE, Int.reduceNe, true_and, and_true, true_or, or_true, false_or, or_false, and_self, or_self, if_true, if_false, reduceIte, not_true_eq_false, not_false_eq_true, Int.reduceEq, Int.reduceNe, Int.reduceLT, Int.reduceLE, Int.reduceAdd, Int.reduceSub, Int.reduceMul, Int.reduceNeg, Nat.reduceAdd, Nat.reduceLeDiff, Nat.reduceEqDiff, ne_eq, List.length_cons, List.length_nil, Nat.reduceSub, (f g1).1, (f g1).2.1, hR.1, Int.le_refl, wc, km]
            exact ih H3 _ _ _ g1 g2 (fun _ q hq => g4 q hq)
          · intro k hk ih7 H3 y g1 g2 g3 g4 g5
            have c3 : ¬ (nR V : Int) ≤ k := Int.not_le.mpr (Int.ofNat_lt.mpr hk)
            have k6 : k < 6 := Nat.lt_of_lt_of_le hk hnR
            have jk : 0 ≤ (k : Int) ∧ (k : Int) < 12 := ⟨Int.natCast_nonneg _, Int.ofNat_lt.mpr (Nat.lt_trans k6 (by decide))⟩
            have jk6 : 0 ≤ (k : Int) ∧ (k : Int) < 6 := ⟨Int.natCast_nonneg _, Int.ofNat_lt.mpr k6⟩
            have kk := w32_s (n := k) (Nat.lt_trans k6 (by decide))
            have e115 : H3 115 k = dgT m k := by rw [g3]; exact b4 k hk
            obtain ⟨o1, o2⟩ := g5 k (Nat.le_refl k)
            have nx : ∀ L' G' : Int, (cnN V m = 0 → L' = dgT m k ∧ G' = dgT m k) → (cnN V m ≠ 0 → L' = min (H3 117 k) (dgT m k) ∧ G' = max (H3 118 k) (dgT m k)) → R (d + 3) MO_fittingRows (blk MO_fittingRows 7) [va 71, vi (cnN V m), vi ((9 ^ nR V : Nat) : Int), vi m, vi ((m / 9 ^ nR V : Nat) : Int), vi ((k + 1 : Nat) : Int), vi (dgT m k)] [] (hs (hs H3 117 k L') 118 k G') Q := fun L' G' h0 h1 => by
              refine ih7 _ _ ((g1.hs (c := 117) rfl).hs (c := 118) rfl) (fun q hq => by rw [hs_ne' (by decide), hs_ne' (by decide)]; exact g2 q hq) (by rw [hs_ne (by decide), hs_ne (by decide)]; exact g3) (fun q hq => ?_) (fun q hq => ?_)
              · rw [hs_ne' (by decide), hs_at, hs_at, hs_ne' (by decide)]
                by_cases e : q = k
                · subst e
                  rw [if_pos rfl, if_pos rfl]
                  refine ⟨new_l hf (fun z => (h0 z).1) (fun z => ⟨by rw [o1]; exact (b3 z q hk).1, (h1 z).1⟩), new_m hf (fun z => (h0 z).2) (fun z => ⟨by rw [o2]; exact (b3 z q hk).2, (h1 z).2⟩)⟩
                · have e' : ¬ (q : Int) = k := fun z => e (Int.ofNat_inj.mp z)
                  rw [if_neg e', if_neg e']
                  exact g4 q (Nat.lt_of_le_of_ne (Nat.le_of_lt_succ hq) e)
              · have e' : ¬ (q : Int) = k := fun z => absurd hq (by rw [Int.ofNat_inj.mp z]; exact Nat.not_succ_le_self k)
                rw [hs_ne' (by decide), hs_at, hs_at, hs_ne' (by decide), if_neg e', if_neg e']
                exact g5 q (Nat.le_of_succ_le hq)
            have x69 : ∀ v, hs H3 117 k v 71 69 = 118 := fun v => (hs_ne' (by decide)).trans (f g1).2.2.2.2
            have x118 : ∀ v, hs H3 117 k v 118 k = H3 118 k := fun v => hs_ne' (by decide)
            rw [e_MO_fittingRows_7]
            by_cases cn0 : cnN V m = 0
            · simp only [k_MO_fittingRows_7, e_MO_fittingRows_8, k_MO_fittingRows_8, e_MO_fittingRows_9, k_MO_fittingRows_9, e_MO_fittingRows_10, k_MO_fittingRows_10, e_MO_fittingRows_11, k_MO_fittingRows_11, en_MO_rowers, e_MO_rowers_0, k_MO_rowers_0, rr, sh, Nat.reduceLT, Nat.reduceMul, Int.reduceToNat, Int.reduceGT, Int.reduceGE, Int.reduceNe, true_and, and_true, true_or, or_true, false_or, or_false, and_self, or_self, if_true, if_false, reduceIte, not_true_eq_false, not_false_eq_true, Int.reduceEq, Int.reduceNe, Int.reduceLT, Int.reduceLE, Int.reduceAdd, Int.reduceSub, Int.reduceMul, Int.reduceNeg, Nat.reduceAdd, Nat.reduceLeDiff, Nat.reduceEqDiff, ne_eq, List.length_cons, List.length_nil, Nat.reduceSub, (f g1).1, (f g1).2.1, hR.1, c3, (f g1).2.2.1, jk, e115, cn0, (f g1).2.2.2.1, jk6, x69, kk]
              have := nx (dgT m k) (dgT m k) (fun _ => ⟨rfl, rfl⟩) (fun z => absurd cn0 z)
              rw [cn0] at this
              exact this
            · by_cases cl : H3 117 k ≤ dgT m k
              · by_cases cg : dgT m k ≤ H3 118 k
                · simp only [k_MO_fittingRows_7, e_MO_fittingRows_8, k_MO_fittingRows_8, e_MO_fittingRows_9, k_MO_fittingRows_9, e_MO_fittingRows_10, k_MO_fittingRows_10, e_MO_fittingRows_11, k_MO_fittingRows_11, en_MO_rowers, e_MO_rowers_0, k_MO_rowers_0, rr, sh, Nat.reduceLT, Nat.reduceMul, Int.reduceToNat, Int.reduceGT, Int.reduceGE, Int.reduceNe, true_and, and_true, true_or, or_true, false_or, or_false, and_self, or_self, if_true, if_false, reduceIte, not_true_eq_false, not_false_eq_true, Int.reduceEq, Int.reduceNe, Int.reduceLT, Int.reduceLE, Int.reduceAdd, Int.reduceSub, Int.reduceMul, Int.reduceNeg, Nat.reduceAdd, Nat.reduceLeDiff, Nat.reduceEqDiff, ne_eq, List.length_cons, List.length_nil, Nat.reduceSub, (f g1).1, (f g1).2.1, hR.1, c3, (f g1).2.2.1, jk, e115, cn0, (f g1).2.2.2.1, (f g1).2.2.2.2, jk6, cl, cg, kk]
                  have := nx (H3 117 k) (H3 118 k) (fun z => absurd z cn0) (fun _ => ⟨by clear ih ih7 nx g4 hcs huf ho o1 o2; omega, by clear ih ih7 nx g4 hcs huf ho o1 o2; omega⟩)
                  rw [hs_self, hs_self] at this
                  exact this
                · simp only [k_MO_fittingRows_7, e_MO_fittingRows_8, k_MO_fittingRows_8, e_MO_fittingRows_9, k_MO_fittingRows_9, e_MO_fittingRows_10, k_MO_fittingRows_10, e_MO_fittingRows_11, k_MO_fittingRows_11, en_MO_rowers, e_MO_rowers_0, k_MO_rowers_0, rr, sh, Nat.reduceLT, Nat.reduceMul, Int.reduceToNat, Int.reduceGT, Int.reduceGE, Int.reduceNe, true_and, and_true, true_or, or_true, false_or, or_false, and_self, or_self, if_true, if_false, reduceIte, not_true_eq_false, not_false_eq_true, Int.reduceEq, Int.reduceNe, Int.reduceLT, Int.reduceLE, Int.reduceAdd, Int.reduceSub, Int.reduceMul, Int.reduceNeg, Nat.reduceAdd, Nat.reduceLeDiff, Nat.reduceEqDiff, ne_eq, List.length_cons, List.length_nil, Nat.reduceSub, (f g1).1, (f g1).2.1, hR.1, c3, (f g1).2.2.1, jk, e115, cn0, (f g1).2.2.2.1, (f g1).2.2.2.2, jk6, cl, cg, kk]
                  have := nx (H3 117 k) (dgT m k) (fun z => absurd z cn0) (fun _ => ⟨by clear ih ih7 nx g4 hcs huf ho o1 o2; omega, by clear ih ih7 nx g4 hcs huf ho o1 o2; omega⟩)
                  rw [hs_self] at this
                  exact this
              · by_cases cg : dgT m k ≤ H3 118 k
                · simp only [k_MO_fittingRows_7, e_MO_fittingRows_8, k_MO_fittingRows_8, e_MO_fittingRows_9, k_MO_fittingRows_9, e_MO_fittingRows_10, k_MO_fittingRows_10, e_MO_fittingRows_11, k_MO_fittingRows_11, en_MO_rowers, e_MO_rowers_0, k_MO_rowers_0, rr, sh, Nat.reduceLT, Nat.reduceMul, Int.reduceToNat, Int.reduceGT, Int.reduceGE, Int.reduceNe, true_and, and_true, true_or, or_true, false_or, or_false, and_self, or_self, if_true, if_false, reduceIte, not_true_eq_false, not_false_eq_true, Int.reduceEq, Int.reduceNe, Int.reduceLT, Int.reduceLE, Int.reduceAdd, Int.reduceSub, Int.reduceMul, Int.reduceNeg, Nat.reduceAdd, Nat.reduceLeDiff, Nat.reduceEqDiff, ne_eq, List.length_cons, List.length_nil, Nat.reduceSub, (f g1).1, (f g1).2.1, hR.1, c3, (f g1).2.2.1, jk, e115, cn0, (f g1).2.2.2.1, x69, x118, jk6, cl, cg, kk]
                  have := nx (dgT m k) (H3 118 k) (fun z => absurd z cn0) (fun _ => ⟨by clear ih ih7 nx g4 hcs huf ho o1 o2; omega, by clear ih ih7 nx g4 hcs huf ho o1 o2; omega⟩)
                  rw [show hs (hs H3 117 k (dgT m k)) 118 k (H3 118 k) = hs H3 117 k (dgT m k) by rw [← x118 (dgT m k)]; exact hs_self] at this
                  exact this
                · simp only [k_MO_fittingRows_7, e_MO_fittingRows_8, k_MO_fittingRows_8, e_MO_fittingRows_9, k_MO_fittingRows_9, e_MO_fittingRows_10, k_MO_fittingRows_10, e_MO_fittingRows_11, k_MO_fittingRows_11, en_MO_rowers, e_MO_rowers_0, k_MO_rowers_0, rr, sh, Nat.reduceLT, Nat.reduceMul, Int.reduceToNat, Int.reduceGT, Int.reduceGE, Int.reduceNe, true_and, and_true, true_or, or_true, false_or, or_false, and_self, or_self, if_true, if_false, reduceIte, not_true_eq_false, not_false_eq_true, Int.reduceEq, Int.reduceNe, Int.reduceLT, Int.reduceLE, Int.reduceAdd, Int.reduceSub, Int.reduceMul, Int.reduceNeg, Nat.reduceAdd, Nat.reduceLeDiff, Nat.reduceEqDiff, ne_eq, List.length_cons, List.length_nil, Nat.reduceSub, (f g1).1, (f g1).2.1, hR.1, c3, (f g1).2.2.1, jk, e115, cn0, (f g1).2.2.2.1, x69, x118, jk6, cl, cg, kk]
                  exact nx (dgT m k) (dgT m k) (fun z => absurd z cn0) (fun _ => ⟨by clear ih ih7 nx g4 hcs huf ho o1 o2; omega, by clear ih ih7 nx g4 hcs huf ho o1 o2; omega⟩)
        · have ho : ¬ optI (unfO V (dgT m) (taV V)) = -1 := fun z => hf (huf.mp (optI_neg.mp z))
          rw [if_neg hf, Int.add_zero] at hcs
          simp only [k_MO_fittingRows_4, e_MO_fittingRows_5, k_MO_fittingRows_5, e_MO_fittingRows_13, k_MO_fittingRows_13, en_MO_rowers, e_MO_rowers_0, k_MO_rowers_0, rr, sh, Nat.reduceLT, Nat.reduceMul, Int.reduceToNat, Int.reduceGT, Int.reduceGE, Int.reduceNe, true_and, and_true, true_or, or_true, false_or, or_false, and_self, or_self, if_true, if_false, reduceIte, not_true_eq_false, not_false_eq_true, Int.reduceEq, Int.reduceNe, Int.reduceLT, Int.reduceLE, Int.reduceAdd, Int.reduceSub, Int.reduceMul, Int.reduceNeg, Nat.reduceAdd, Nat.reduceLeDiff, Nat.reduceEqDiff, ne_eq, List.length_cons, List.length_nil, Nat.reduceSub, (f b1).1, (f b1).2.1, hR.1, Int.le_refl, q_firstUnfitM hM b1 hT2, ho, km]
          rw [← hcs]
          refine ih H2 _ _ _ b1 b2 (fun hc q hq => ?_)
          rw [hcs] at hc
          obtain ⟨n1, n2⟩ := b3 hc q hq
          refine ⟨fun v => ?_, fun v => ?_⟩
          · rw [n1 v]
            exact ⟨fun ⟨m', m1, m2, m3⟩ => ⟨m', Nat.lt_succ_of_lt m1, m2, m3⟩, fun ⟨m', m1, m2, m3⟩ => ⟨m', Nat.lt_of_le_of_ne (Nat.le_of_lt_succ m1) (fun e => hf (by rw [← e]; exact m2)), m2, m3⟩⟩
          · rw [n2 v]
            exact ⟨fun ⟨m', m1, m2, m3⟩ => ⟨m', Nat.lt_succ_of_lt m1, m2, m3⟩, fun ⟨m', m1, m2, m3⟩ => ⟨m', Nat.lt_of_le_of_ne (Nat.le_of_lt_succ m1) (fun e => hf (by rw [← e]; exact m2)), m2, m3⟩⟩
      · intro k hk ih4 H2 b1 b2 b3 b4
        have c3 : ¬ (nR V : Int) ≤ k := Int.not_le.mpr (Int.ofNat_lt.mpr hk)
        have k6 : k < 6 := Nat.lt_of_lt_of_le hk hnR
        have jk : 0 ≤ (k : Int) ∧ (k : Int) < 12 := ⟨Int.natCast_nonneg _, Int.ofNat_lt.mpr (Nat.lt_trans k6 (by decide))⟩
        have kk := w32_s (n := k) (Nat.lt_trans k6 (by decide))
        have hv := Nat.div_le_self m (9 ^ k)
        have hd9 : m / 9 ^ k % 9 < 9 := Nat.mod_lt _ (by decide)
        have wr : w32 (((m / 9 ^ k : Nat) : Int).tmod 9) = ((m / 9 ^ k % 9 : Nat) : Int) := by
          rw [Int.tmod_eq_emod_of_nonneg (Int.natCast_nonneg _)]
          have e : ((m / 9 ^ k : Nat) : Int) % 9 = ((m / 9 ^ k % 9 : Nat) : Int) := (Int.natCast_emod (m / 9 ^ k) 9).symm
          rw [e]
          exact w32_nat (Nat.lt_trans hd9 (by decide))
        have w1 : w32 (1 + ((m / 9 ^ k % 9 : Nat) : Int)) = dgT m k := by
          unfold dgT
          generalize m / 9 ^ k % 9 = y at hd9 ⊢
          exact w32_id (by clear ih ih4 wr b4 hv; omega) (by clear ih ih4 wr b4 hv; omega)
        have wd : w32 (((m / 9 ^ k : Nat) : Int).tdiv 9) = ((m / 9 ^ (k + 1) : Nat) : Int) := by
          rw [Int.tdiv_eq_ediv_of_nonneg (Int.natCast_nonneg _)]
          have e : ((m / 9 ^ k : Nat) : Int) / 9 = ((m / 9 ^ k / 9 : Nat) : Int) := (Int.natCast_ediv (m / 9 ^ k) 9).symm
          rw [e, Nat.div_div_eq_div_mul, ← Nat.pow_succ]
          exact w32_nat (Nat.lt_of_le_of_lt (Nat.div_le_self _ _) (Nat.lt_trans m6 (by decide)))
        rw [e_MO_fittingRows_4]
        simp only [k_MO_fittingRows_4, en_MO_rowers, e_MO_rowers_0, k_MO_rowers_0, rr, sh, Nat.reduceLT, Nat.reduceMul, Int.reduceToNat, Int.reduceGT, Int.reduceGE, Int.reduceNe, true_and, and_true, true_or, or_true, false_or, or_false, and_self, or_self, if_true, if_false, reduceIte, not_true_eq_false, not_false_eq_true, Int.reduceEq, Int.reduceNe, Int.reduceLT, Int.reduceLE, Int.reduceAdd, Int.reduceSub, Int.reduceMul, Int.reduceNeg, Nat.reduceAdd, Nat.reduceLeDiff, Nat.reduceEqDiff, ne_eq, List.length_cons, List.length_nil, Nat.reduceSub, (f b1).1, (f b1).2.1, hR.1, c3, (f b1).2.2.1, wr, w1, wd, jk, kk]
        refine ih4 _ (b1.hs (c := 115) rfl) (fun q hq => (hs_ne' (by decide)).trans (b2 q hq)) (fun hc q hq => by rw [hs_ne' (by decide), hs_ne' (by decide)]; exact b3 hc q hq) fun q hq => ?_
        rw [hs_at]
        by_cases e : q = k
        · subst e; rw [if_pos rfl]
        · rw [if_neg (fun z => e (Int.ofNat_inj.mp z))]; exact b4 q (Nat.lt_of_le_of_ne (Nat.le_of_lt_succ hq) e)
  · intro i hi ih
    have c1 : ¬ (nR V : Int) ≤ i := Int.not_le.mpr (Int.ofNat_lt.mpr hi)
    have i6 : i < 6 := Nat.lt_of_lt_of_le hi hnR
    have ki := w32_s (n := i) (Nat.lt_trans i6 (by decide))
    have hp : 9 ^ i ≤ 9 ^ 5 := Nat.pow_le_pow_right (by decide) (Nat.le_of_lt_succ i6)
    have wm : w32 (((9 ^ i : Nat) : Int) * 9) = ((9 ^ (i + 1) : Nat) : Int) := by
      rw [Nat.pow_succ]
      generalize 9 ^ i = y at hp ⊢
      rw [w32_id (by clear ih ki hall hQ; omega) (by clear ih ki hall hQ; omega)]
      push_cast; rfl
    rw [e_MO_fittingRows_1]
    simp only [k_MO_fittingRows_1, en_MO_rowers, e_MO_rowers_0, k_MO_rowers_0, rr, sh, Nat.reduceLT, Nat.reduceMul, Int.reduceToNat, Int.reduceGT, Int.reduceGE, Int.reduceNe, true_and, and_true, true_or, or_true, false_or, or_false, and_self, or_self, if_true, if_false, reduceIte, not_true_eq_false, not_false_eq_true, Int.reduceEq, Int.reduceNe, Int.reduceLT, Int.reduceLE, Int.reduceAdd, Int.reduceSub, Int.reduceMul, Int.reduceNeg, Nat.reduceAdd, Nat.reduceLeDiff, Nat.reduceEqDiff, ne_eq, List.length_cons, List.length_nil, Nat.reduceSub, (f hH).1, (f hH).2.1, hR.1, c1, wm, ki]
    exact ih
end TM
