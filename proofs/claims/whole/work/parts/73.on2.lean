/-! on: the class takes an image -/
def hdS (V : Hp) : Nat → Int
  | 0 => 0
  | k + 1 => l_or (l_shl (hdS V k) 8) (bt V (2 + k))
def tkC (a b : Int) : Bool := if a = 18 then true else if a = 19 then true else if a = 4 then (decide (b = 3) || decide (b = 4) || decide (b = 11)) else false
section OC2
variable {d : Nat} {V H : Hp} {Q : AV → Hp → Prop}
theorem or_two (a b : Nat) (ha : a < 256) (hb : b < 256) : b_or (b_shl (a : Int) 8) b = 256 * a + b := by
  have h1 : b_shl (a : Int) 8 = ((a * 2 ^ 8 : Nat) : Int) := b_shl_nat (k := 8) (by decide) (by omega)
  rw [h1, b_or_nat (by omega) (by omega)]
  have := Nat.two_pow_add_eq_or_of_lt (i := 8) hb a
  rw [Nat.mul_comm a, ← this]
  omega
theorem q_strokeIn (hT : TapeR V) (h0 : H 2 0 = 3) (h1 : H 2 1 = V 2 1) (h3 : H 3 = V 3) (hk : 2 ≤ V 2 1) : CC (d + 1) CW_strokeIn [va 2] H Q = Q (vi (256 * bt V 0 + bt V 1)) H := by
  refine CC_dt fun Q hQ => ?_
  have r0 := bt_rng hT (k := 0) (by omega)
  have r1 := bt_rng hT (k := 1) (by omega)
  have k0 : ∀ {Q : AV → Hp → Prop}, CC d TP_byteAt [va 2, vi 0] H Q = Q (vi (bt V 0)) H := fun {Q} => q_byteAt hT h0 h1 h3 (k := 0) (by omega)
  have k1 : ∀ {Q : AV → Hp → Prop}, CC d TP_byteAt [va 2, vi 1] H Q = Q (vi (bt V 1)) H := fun {Q} => q_byteAt hT h0 h1 h3 (k := 1) (by omega)
  obtain ⟨a, ea⟩ := Int.eq_ofNat_of_zero_le r0.1
  obtain ⟨b, eb⟩ := Int.eq_ofNat_of_zero_le r1.1
  simp only [en_CW_strokeIn, e_CW_strokeIn_0, k_CW_strokeIn_0, rr, sh, Nat.reduceLT, Nat.reduceMul, Int.reduceToNat, Int.reduceGT, Int.reduceGE, Int.reduceNe, true_and, and_true, true_or, or_true, false_or, or_false, and_self, or_self, if_true, if_false, reduceIte, not_true_eq_false, not_false_eq_true, Int.reduceEq, Int.reduceNe, Int.reduceLT, Int.reduceLE, Int.reduceAdd, Int.reduceSub, Int.reduceMul, Int.reduceNeg, Nat.reduceAdd, Nat.reduceLeDiff, Nat.reduceEqDiff, ne_eq, List.length_cons, List.length_nil, Nat.reduceSub, k0, k1]
  rw [ea, eb] at hQ ⊢
  rw [or_two a b (by omega) (by omega)]
  exact hQ
theorem q_sideFixed (hI : Inq V) {k : Nat} (hk : k < nS V) (h : V 94 (12 + k) ≠ 0) : CC (d + 1) PL_sideAtFirst [va (V 4 0), vi k] V Q = Q (vi (V 94 (12 + k) - 1)) V := by
  refine CC_dt fun Q hQ => ?_
  have hn := hI.boat.s
  obtain ⟨f', g', e1, e2, hf, hg, ho, -, hb, hb2⟩ := fix_bits hI
  have hbk := hb2 k hk
  have hfx := hI.boat.fix k hk
  have bb := b_bit (a := g') (k := k) (Nat.lt_trans hg (by decide)) (Nat.lt_of_lt_of_le hk (Nat.le_trans hn.2 (by decide)))
  rw [hbk] at bb
  have z1 := shp hI
  have hH : Vw V V := Vw.rf
  simp only [en_PL_sideAtFirst, e_PL_sideAtFirst_0, k_PL_sideAtFirst_0, e_PL_sideAtFirst_1, k_PL_sideAtFirst_1, rr, sh, Nat.reduceLT, Nat.reduceMul, Int.reduceToNat, Int.reduceGT, Int.reduceGE, Int.reduceNe, true_and, and_true, true_or, or_true, false_or, or_false, and_self, or_self, if_true, if_false, reduceIte, not_true_eq_false, not_false_eq_true, Int.reduceEq, Int.reduceNe, Int.reduceLT, Int.reduceLE, Int.reduceAdd, Int.reduceSub, Int.reduceMul, Int.reduceNeg, Nat.reduceAdd, Nat.reduceLeDiff, Nat.reduceEqDiff, ne_eq, List.length_cons, List.length_nil, Nat.reduceSub, z1, q_isFixedC hI hH hk, h, e2, bb]
  by_cases e : V 94 (12 + k) = 2
  · rw [e] at hQ ⊢
    exact hQ
  · have e1' : V 94 (12 + k) = 1 := by clear e1 e2 hbk bb hb hb2 z1; omega
    rw [e1'] at hQ ⊢
    exact hQ
set_option maxRecDepth 20000 in
theorem c_sidesCan (hI : Inq V) (hT : TapeR V) (hL : V 2 1 = ((11 + 2 * nS V : Nat) : Int)) (hno : ¬ okS V (nS V) → Q (vi 0) V) (hQ : okS V (nS V) → Q (vi 1) V) : CC (d + 2) CW_sidesCanBeSo [va 4, va 2] V Q := by
  have hn := hI.boat.s
  have h0 := hI.plan.seats
  have p20 : V 2 0 = 3 := hI.ptr (2, 0, 3) (by decide +kernel)
  simp only [en_CW_sidesCanBeSo, e_CW_sidesCanBeSo_0, k_CW_sidesCanBeSo_0, rr, sh, Nat.reduceLT, Nat.reduceMul, Int.reduceToNat, Int.reduceGT, Int.reduceGE, Int.reduceNe, true_and, and_true, true_or, or_true, false_or, or_false, and_self, or_self, if_true, if_false, reduceIte, not_true_eq_false, not_false_eq_true, Int.reduceEq, Int.reduceNe, Int.reduceLT, Int.reduceLE, Int.reduceAdd, Int.reduceSub, Int.reduceMul, Int.reduceNeg, Nat.reduceAdd, Nat.reduceLeDiff, Nat.reduceEqDiff, ne_eq, List.length_cons, List.length_nil, Nat.reduceSub]
  refine up_nat (P := fun k => ∀ (y : AV), okS V k → R (d + 2) CW_sidesCanBeSo (blk CW_sidesCanBeSo 1) [va 4, va 2, vi k, y] [] V Q) ?_ ?_ 0 (Nat.zero_le (nS V)) vu (fun k hk => absurd hk (Nat.not_lt_zero k))
  · intro y ho
    have z1 := shp hI
    rw [e_CW_sidesCanBeSo_1]
    simp only [k_CW_sidesCanBeSo_1, e_CW_sidesCanBeSo_4, k_CW_sidesCanBeSo_4, rr, sh, Nat.reduceLT, Nat.reduceMul, Int.reduceToNat, Int.reduceGT, Int.reduceGE, Int.reduceNe, true_and, and_true, true_or, or_true, false_or, or_false, and_self, or_self, if_true, if_false, reduceIte, not_true_eq_false, not_false_eq_true, Int.reduceEq, Int.reduceNe, Int.reduceLT, Int.reduceLE, Int.reduceAdd, Int.reduceSub, Int.reduceMul, Int.reduceNeg, Nat.reduceAdd, Nat.reduceLeDiff, Nat.reduceEqDiff, ne_eq, List.length_cons, List.length_nil, Nat.reduceSub, z1, h0, Int.le_refl]
    exact hQ ho
  · intro k hk ih y ho
    have c1 : ¬ (nS V : Int) ≤ k := by clear ih ho hno hQ; omega
    have kw := w32_s (n := k) (by clear ih ho hno hQ; omega)
    obtain ⟨-, i1⟩ := ix10 hk hn.2
    have hb1 : ((11 + 2 * k : Nat) : Int) < V 2 1 := by rw [hL]; clear ih ho hno hQ i1 kw; omega
    have hbr : 0 ≤ rgt V k ∧ rgt V k < 256 := bt_rng hT hb1
    have kb : ∀ {Q : AV → Hp → Prop}, CC (d + 1) TP_byteAt [va 2, vi ((11 + 2 * k : Nat) : Int)] V Q = Q (vi (rgt V k)) V := fun {Q} => q_byteAt hT p20 rfl rfl hb1
    have z1 := shp hI
    have hH : Vw V V := Vw.rf
    rw [e_CW_sidesCanBeSo_1]
    by_cases h : rgt V k ≤ 1
    · have h' : ¬ 1 < rgt V k := Int.not_lt.mpr h
      by_cases hf : V 94 (12 + k) = 0
      · simp only [k_CW_sidesCanBeSo_1, e_CW_sidesCanBeSo_2, k_CW_sidesCanBeSo_2, e_CW_sidesCanBeSo_3, k_CW_sidesCanBeSo_3, rr, sh, Nat.reduceLT, Nat.reduceMul, Int.reduceToNat, Int.reduceGT, Int.reduceGE, Int.reduceNe, true_and, and_true, true_or, or_true, false_or, or_false, and_self, or_self, if_true, if_false, reduceIte, not_true_eq_false, not_false_eq_true, Int.reduceEq, Int.reduceNe, Int.reduceLT, Int.reduceLE, Int.reduceAdd, Int.reduceSub, Int.reduceMul, Int.reduceNeg, Nat.reduceAdd, Nat.reduceLeDiff, Nat.reduceEqDiff, ne_eq, List.length_cons, List.length_nil, Nat.reduceSub, z1, h0, c1, i1, kb, h', h, kw, q_isFixedC hI hH hk, hf]
        refine ih _ fun q hq => ?_
        by_cases e : q = k
        · subst e; exact ⟨h, fun z => absurd hf z⟩
        · exact ho q (Nat.lt_of_le_of_ne (Nat.le_of_lt_succ hq) e)
      · by_cases he : rgt V k = V 94 (12 + k) - 1
        · simp only [k_CW_sidesCanBeSo_1, e_CW_sidesCanBeSo_2, k_CW_sidesCanBeSo_2, e_CW_sidesCanBeSo_3, k_CW_sidesCanBeSo_3, rr, sh, Nat.reduceLT, Nat.reduceMul, Int.reduceToNat, Int.reduceGT, Int.reduceGE, Int.reduceNe, true_and, and_true, true_or, or_true, false_or, or_false, and_self, or_self, if_true, if_false, reduceIte, not_true_eq_false, not_false_eq_true, Int.reduceEq, Int.reduceNe, Int.reduceLT, Int.reduceLE, Int.reduceAdd, Int.reduceSub, Int.reduceMul, Int.reduceNeg, Nat.reduceAdd, Nat.reduceLeDiff, Nat.reduceEqDiff, ne_eq, List.length_cons, List.length_nil, Nat.reduceSub, z1, h0, c1, i1, kb, h', h, kw, q_isFixedC hI hH hk, hf, q_sideFixed hI hk hf, he]
          rw [he] at h h' kb hbr
          simp only [h', rr, sh, Nat.reduceLT, Nat.reduceMul, Int.reduceToNat, Int.reduceGT, Int.reduceGE, Int.reduceNe, true_and, and_true, true_or, or_true, false_or, or_false, and_self, or_self, if_true, if_false, reduceIte, not_true_eq_false, not_false_eq_true, Int.reduceEq, Int.reduceNe, Int.reduceLT, Int.reduceLE, Int.reduceAdd, Int.reduceSub, Int.reduceMul, Int.reduceNeg, Nat.reduceAdd, Nat.reduceLeDiff, Nat.reduceEqDiff, ne_eq, List.length_cons, List.length_nil, Nat.reduceSub]
          refine ih _ fun q hq => ?_
          by_cases e : q = k
          · subst e; exact ⟨by rw [he]; exact h, fun _ => he⟩
          · exact ho q (Nat.lt_of_le_of_ne (Nat.le_of_lt_succ hq) e)
        · simp only [k_CW_sidesCanBeSo_1, e_CW_sidesCanBeSo_2, k_CW_sidesCanBeSo_2, e_CW_sidesCanBeSo_3, k_CW_sidesCanBeSo_3, rr, sh, Nat.reduceLT, Nat.reduceMul, Int.reduceToNat, Int.reduceGT, Int.reduceGE, Int.reduceNe, true_and, and_true, true_or, or_true, false_or, or_false, and_self, or_self, if_true, if_false, reduceIte, not_true_eq_false, not_false_eq_true, Int.reduceEq, Int.reduceNe, Int.reduceLT, Int.reduceLE, Int.reduceAdd, Int.reduceSub, Int.reduceMul, Int.reduceNeg, Nat.reduceAdd, Nat.reduceLeDiff, Nat.reduceEqDiff, ne_eq, List.length_cons, List.length_nil, Nat.reduceSub, z1, h0, c1, i1, kb, h', h, kw, q_isFixedC hI hH hk, hf, q_sideFixed hI hk hf, he]
          exact hno fun z => he ((z k hk).2 hf)
    · have h' : 1 < rgt V k := Int.not_le.mp h
      simp only [k_CW_sidesCanBeSo_1, e_CW_sidesCanBeSo_2, k_CW_sidesCanBeSo_2, e_CW_sidesCanBeSo_3, k_CW_sidesCanBeSo_3, rr, sh, Nat.reduceLT, Nat.reduceMul, Int.reduceToNat, Int.reduceGT, Int.reduceGE, Int.reduceNe, true_and, and_true, true_or, or_true, false_or, or_false, and_self, or_self, if_true, if_false, reduceIte, not_true_eq_false, not_false_eq_true, Int.reduceEq, Int.reduceNe, Int.reduceLT, Int.reduceLE, Int.reduceAdd, Int.reduceSub, Int.reduceMul, Int.reduceNeg, Nat.reduceAdd, Nat.reduceLeDiff, Nat.reduceEqDiff, ne_eq, List.length_cons, List.length_nil, Nat.reduceSub, z1, h0, c1, i1, kb, h', h, kw]
      exact hno fun z => h (z k hk).1
set_option maxRecDepth 20000 in
theorem c_isImageC (hI : Inq V) (hT : TapeR V) (hno : ¬ imOk V → Q (vi 0) V) (hQ : imOk V → Q (vi 1) V) : CC (d + 3) CW_isImage [va 4, va 2] V Q := by
  have hn := hI.boat.s
  have h0 := hI.plan.seats
  have p20 : V 2 0 = 3 := hI.ptr (2, 0, 3) (by decide +kernel)
  have z1 := shp hI
  have w1 : w32 (11 + w32 (2 * (nS V : Int))) = ((11 + 2 * nS V : Nat) : Int) := by
    clear z1 h0
    rw [w32_id (x := 2 * (nS V : Int)) (by omega) (by omega), w32_id (by omega) (by omega)]; omega
  have w2 : w32 (((11 + 2 * nS V : Nat) : Int) - 1) = ((10 + 2 * nS V : Nat) : Int) := by
    clear z1 h0 w1
    rw [w32_id (by omega) (by omega)]; omega
  by_cases hL : V 2 1 = ((11 + 2 * nS V : Nat) : Int)
  · have hm := hT.2.1
    simp only [en_CW_isImage, e_CW_isImage_0, k_CW_isImage_0, e_CW_isImage_1, k_CW_isImage_1, rr, sh, Nat.reduceLT, Nat.reduceMul, Int.reduceToNat, Int.reduceGT, Int.reduceGE, Int.reduceNe, true_and, and_true, true_or, or_true, false_or, or_false, and_self, or_self, if_true, if_false, reduceIte, not_true_eq_false, not_false_eq_true, Int.reduceEq, Int.reduceNe, Int.reduceLT, Int.reduceLE, Int.reduceAdd, Int.reduceSub, Int.reduceMul, Int.reduceNeg, Nat.reduceAdd, Nat.reduceLeDiff, Nat.reduceEqDiff, ne_eq, List.length_cons, List.length_nil, Nat.reduceSub, z1, h0, w1, hL]
    refine up_nat (P := fun k => R (d + 3) CW_isImage (blk CW_isImage 2) [va 4, va 2, vi ((11 + 2 * nS V : Nat) : Int), vi (ckS (bt V) k), vi k] [] V Q) ?_ ?_ 0 (Nat.zero_le (10 + 2 * nS V))
    · have hlast : ((10 + 2 * nS V : Nat) : Int) < V 2 1 := by rw [hL]; clear z1 h0 w1 w2; omega
      have kl : ∀ {Q : AV → Hp → Prop}, CC (d + 2) TP_byteAt [va 2, vi ((10 + 2 * nS V : Nat) : Int)] V Q = Q (vi (bt V (10 + 2 * nS V))) V := fun {Q} => q_byteAt hT p20 rfl rfl hlast
      have k2 : ∀ {Q : AV → Hp → Prop}, CC (d + 2) CW_strokeIn [va 2] V Q = Q (vi (256 * bt V 0 + bt V 1)) V := fun {Q} => q_strokeIn (d := d + 1) hT p20 rfl rfl (by rw [hL]; clear z1 h0 w1 w2; omega)
      rw [e_CW_isImage_2]
      by_cases a1 : ckS (bt V) (10 + 2 * nS V) = bt V (10 + 2 * nS V)
      · by_cases a2 : 256 * bt V 0 + bt V 1 ≤ 9999
        · have a2' : ¬ 9999 < 256 * bt V 0 + bt V 1 := Int.not_lt.mpr a2
          simp only [k_CW_isImage_2, e_CW_isImage_3, k_CW_isImage_3, e_CW_isImage_4, k_CW_isImage_4, e_CW_isImage_5, k_CW_isImage_5, rr, sh, Nat.reduceLT, Nat.reduceMul, Int.reduceToNat, Int.reduceGT, Int.reduceGE, Int.reduceNe, true_and, and_true, true_or, or_true, false_or, or_false, and_self, or_self, if_true, if_false, reduceIte, not_true_eq_false, not_false_eq_true, Int.reduceEq, Int.reduceNe, Int.reduceLT, Int.reduceLE, Int.reduceAdd, Int.reduceSub, Int.reduceMul, Int.reduceNeg, Nat.reduceAdd, Nat.reduceLeDiff, Nat.reduceEqDiff, ne_eq, List.length_cons, List.length_nil, Nat.reduceSub, w2, Int.le_refl, kl, a1, k2, a2']
          refine c_canSitSo hI hT hL (fun z => ?_) (fun z => ?_)
          · simp only [e_CW_isImage_4, k_CW_isImage_4, e_CW_isImage_5, k_CW_isImage_5, rr, sh, Nat.reduceLT, Nat.reduceMul, Int.reduceToNat, Int.reduceGT, Int.reduceGE, Int.reduceNe, true_and, and_true, true_or, or_true, false_or, or_false, and_self, or_self, if_true, if_false, reduceIte, not_true_eq_false, not_false_eq_true, Int.reduceEq, Int.reduceNe, Int.reduceLT, Int.reduceLE, Int.reduceAdd, Int.reduceSub, Int.reduceMul, Int.reduceNeg, Nat.reduceAdd, Nat.reduceLeDiff, Nat.reduceEqDiff, ne_eq, List.length_cons, List.length_nil, Nat.reduceSub]
            exact hno fun q => z ⟨q.2.2.2.1, q.2.2.2.2.1⟩
          · simp only [rr, sh, Nat.reduceLT, Nat.reduceMul, Int.reduceToNat, Int.reduceGT, Int.reduceGE, Int.reduceNe, true_and, and_true, true_or, or_true, false_or, or_false, and_self, or_self, if_true, if_false, reduceIte, not_true_eq_false, not_false_eq_true, Int.reduceEq, Int.reduceNe, Int.reduceLT, Int.reduceLE, Int.reduceAdd, Int.reduceSub, Int.reduceMul, Int.reduceNeg, Nat.reduceAdd, Nat.reduceLeDiff, Nat.reduceEqDiff, ne_eq, List.length_cons, List.length_nil, Nat.reduceSub]
            refine c_sidesCan hI hT hL (fun z2 => ?_) (fun z2 => ?_)
            · simp only [e_CW_isImage_4, k_CW_isImage_4, e_CW_isImage_5, k_CW_isImage_5, rr, sh, Nat.reduceLT, Nat.reduceMul, Int.reduceToNat, Int.reduceGT, Int.reduceGE, Int.reduceNe, true_and, and_true, true_or, or_true, false_or, or_false, and_self, or_self, if_true, if_false, reduceIte, not_true_eq_false, not_false_eq_true, Int.reduceEq, Int.reduceNe, Int.reduceLT, Int.reduceLE, Int.reduceAdd, Int.reduceSub, Int.reduceMul, Int.reduceNeg, Nat.reduceAdd, Nat.reduceLeDiff, Nat.reduceEqDiff, ne_eq, List.length_cons, List.length_nil, Nat.reduceSub]
              exact hno fun q => z2 q.2.2.2.2.2
            · simp only [e_CW_isImage_4, k_CW_isImage_4, e_CW_isImage_5, k_CW_isImage_5, rr, sh, Nat.reduceLT, Nat.reduceMul, Int.reduceToNat, Int.reduceGT, Int.reduceGE, Int.reduceNe, true_and, and_true, true_or, or_true, false_or, or_false, and_self, or_self, if_true, if_false, reduceIte, not_true_eq_false, not_false_eq_true, Int.reduceEq, Int.reduceNe, Int.reduceLT, Int.reduceLE, Int.reduceAdd, Int.reduceSub, Int.reduceMul, Int.reduceNeg, Nat.reduceAdd, Nat.reduceLeDiff, Nat.reduceEqDiff, ne_eq, List.length_cons, List.length_nil, Nat.reduceSub]
              exact hQ ⟨by rw [hm, hL], a1, a2, z.1, z.2, z2⟩
        · have a2' : 9999 < 256 * bt V 0 + bt V 1 := Int.not_le.mp a2
          simp only [k_CW_isImage_2, e_CW_isImage_3, k_CW_isImage_3, e_CW_isImage_4, k_CW_isImage_4, e_CW_isImage_5, k_CW_isImage_5, rr, sh, Nat.reduceLT, Nat.reduceMul, Int.reduceToNat, Int.reduceGT, Int.reduceGE, Int.reduceNe, true_and, and_true, true_or, or_true, false_or, or_false, and_self, or_self, if_true, if_false, reduceIte, not_true_eq_false, not_false_eq_true, Int.reduceEq, Int.reduceNe, Int.reduceLT, Int.reduceLE, Int.reduceAdd, Int.reduceSub, Int.reduceMul, Int.reduceNeg, Nat.reduceAdd, Nat.reduceLeDiff, Nat.reduceEqDiff, ne_eq, List.length_cons, List.length_nil, Nat.reduceSub, w2, Int.le_refl, kl, a1, k2, a2']
          exact hno fun q => a2 q.2.2.1
      · simp only [k_CW_isImage_2, e_CW_isImage_3, k_CW_isImage_3, e_CW_isImage_4, k_CW_isImage_4, e_CW_isImage_5, k_CW_isImage_5, rr, sh, Nat.reduceLT, Nat.reduceMul, Int.reduceToNat, Int.reduceGT, Int.reduceGE, Int.reduceNe, true_and, and_true, true_or, or_true, false_or, or_false, and_self, or_self, if_true, if_false, reduceIte, not_true_eq_false, not_false_eq_true, Int.reduceEq, Int.reduceNe, Int.reduceLT, Int.reduceLE, Int.reduceAdd, Int.reduceSub, Int.reduceMul, Int.reduceNeg, Nat.reduceAdd, Nat.reduceLeDiff, Nat.reduceEqDiff, ne_eq, List.length_cons, List.length_nil, Nat.reduceSub, w2, Int.le_refl, kl, a1]
        exact hno fun q => a1 q.2.1
    · intro k hk ih
      have c1 : ¬ ((10 + 2 * nS V : Nat) : Int) ≤ k := by clear ih z1 h0 w1 w2; omega
      have kw := w32_s (n := k) (by clear ih z1 h0 w1 w2; omega)
      have hk2 : (k : Int) < V 2 1 := by rw [hL]; clear ih z1 h0 w1 w2 kw; omega
      have hr := bt_rng hT hk2
      have kb : ∀ {Q : AV → Hp → Prop}, CC (d + 2) TP_byteAt [va 2, vi (k : Int)] V Q = Q (vi (bt V k)) V := fun {Q} => q_byteAt hT p20 rfl rfl hk2
      have hc := ckS_rng (bt V) k
      have w5 : w32 ((w32 (w32 (5 * ckS (bt V) k) + bt V k)).tmod 251) = ckS (bt V) (k + 1) := by
        show _ = (5 * ckS (bt V) k + bt V k) % 251
        generalize ckS (bt V) k = y at hc ⊢
        generalize bt V k = x at hr ⊢
        clear ih z1 h0 w1 w2 kw
        rw [w32_id (x := 5 * y) (by omega) (by omega), w32_id (x := 5 * y + x) (by omega) (by omega), Int.tmod_eq_emod_of_nonneg (by omega), w32_id (by omega) (by omega)]
      rw [e_CW_isImage_2]
      simp only [k_CW_isImage_2, en_CW_checkOn, e_CW_checkOn_0, k_CW_checkOn_0, rr, sh, Nat.reduceLT, Nat.reduceMul, Int.reduceToNat, Int.reduceGT, Int.reduceGE, Int.reduceNe, true_and, and_true, true_or, or_true, false_or, or_false, and_self, or_self, if_true, if_false, reduceIte, not_true_eq_false, not_false_eq_true, Int.reduceEq, Int.reduceNe, Int.reduceLT, Int.reduceLE, Int.reduceAdd, Int.reduceSub, Int.reduceMul, Int.reduceNeg, Nat.reduceAdd, Nat.reduceLeDiff, Nat.reduceEqDiff, ne_eq, List.length_cons, List.length_nil, Nat.reduceSub, w2, c1, kb, w5, kw]
      exact ih
  · simp only [en_CW_isImage, e_CW_isImage_0, k_CW_isImage_0, e_CW_isImage_1, k_CW_isImage_1, rr, sh, Nat.reduceLT, Nat.reduceMul, Int.reduceToNat, Int.reduceGT, Int.reduceGE, Int.reduceNe, true_and, and_true, true_or, or_true, false_or, or_false, and_self, or_self, if_true, if_false, reduceIte, not_true_eq_false, not_false_eq_true, Int.reduceEq, Int.reduceNe, Int.reduceLT, Int.reduceLE, Int.reduceAdd, Int.reduceSub, Int.reduceMul, Int.reduceNeg, Nat.reduceAdd, Nat.reduceLeDiff, Nat.reduceEqDiff, ne_eq, List.length_cons, List.length_nil, Nat.reduceSub, z1, h0, w1, hL]
    exact hno fun q => hL (hT.2.1.symm.trans q.1)
/-- the class's crew behind an image -/
def tkR (V H : Hp) : Prop := Fx tkC V H ∧ H 4 3 = 256 * bt V 0 + bt V 1 ∧ H 4 4 = hdS V 8 ∧ H 4 11 = 0 ∧ (∀ k : Nat, k < 12 → H 18 k = if k < nS V then who V k - 1 else V 18 k) ∧ ∀ k : Nat, k < nS V → H 19 k = rgt V k
set_option maxRecDepth 20000 in
theorem c_takeImage (hI : Inq V) (hT : TapeR V) (hno : ¬ imOk V → Q (vi 0) V) (hQ : imOk V → ∀ H', tkR V H' → Q (vi 1) H') : CC (d + 4) CW_takeImage [va 4, va 2] V Q := by
  have hn := hI.boat.s
  have h0 := hI.plan.seats
  have p20 : V 2 0 = 3 := hI.ptr (2, 0, 3) (by decide +kernel)
  have z1 := shp hI
  simp only [en_CW_takeImage, e_CW_takeImage_0, k_CW_takeImage_0, rr, sh, Nat.reduceLT, Nat.reduceMul, Int.reduceToNat, Int.reduceGT, Int.reduceGE, Int.reduceNe, true_and, and_true, true_or, or_true, false_or, or_false, and_self, or_self, if_true, if_false, reduceIte, not_true_eq_false, not_false_eq_true, Int.reduceEq, Int.reduceNe, Int.reduceLT, Int.reduceLE, Int.reduceAdd, Int.reduceSub, Int.reduceMul, Int.reduceNeg, Nat.reduceAdd, Nat.reduceLeDiff, Nat.reduceEqDiff, ne_eq, List.length_cons, List.length_nil, Nat.reduceSub]
  refine c_isImageC hI hT (fun z => ?_) (fun z => ?_)
  · simp only [rr, sh, Nat.reduceLT, Nat.reduceMul, Int.reduceToNat, Int.reduceGT, Int.reduceGE, Int.reduceNe, true_and, and_true, true_or, or_true, false_or, or_false, and_self, or_self, if_true, if_false, reduceIte, not_true_eq_false, not_false_eq_true, Int.reduceEq, Int.reduceNe, Int.reduceLT, Int.reduceLE, Int.reduceAdd, Int.reduceSub, Int.reduceMul, Int.reduceNeg, Nat.reduceAdd, Nat.reduceLeDiff, Nat.reduceEqDiff, ne_eq, List.length_cons, List.length_nil, Nat.reduceSub]
    exact hno z
  · have hL : V 2 1 = ((11 + 2 * nS V : Nat) : Int) := hT.2.1.symm.trans z.1
    have f : ∀ {H}, Fx tkC V H → H 2 0 = 3 ∧ H 2 1 = V 2 1 ∧ H 3 = V 3 ∧ H 4 0 = V 4 0 ∧ H 4 1 = 18 ∧ H 4 2 = 19 ∧ H (V 4 0) 0 = nS V := fun {H} h => by
      refine ⟨(h 2 0 rfl).trans p20, h 2 1 rfl, h.cell 3 (fun _ => rfl), h 4 0 rfl, (h 4 1 rfl).trans (hI.ptr (4, 1, 18) (by decide +kernel)), (h 4 2 rfl).trans (hI.ptr (4, 2, 19) (by decide +kernel)), ?_⟩
      rw [← h0]
      refine h _ _ ?_
      rcases hI.pp with e | e <;> rw [e] <;> rfl
    have k2 : ∀ {Q : AV → Hp → Prop}, CC (d + 3) CW_strokeIn [va 2] V Q = Q (vi (256 * bt V 0 + bt V 1)) V := fun {Q} => q_strokeIn (d := d + 2) hT p20 rfl rfl (by rw [hL]; clear z1 h0; omega)
    simp only [e_CW_takeImage_1, k_CW_takeImage_1, rr, sh, Nat.reduceLT, Nat.reduceMul, Int.reduceToNat, Int.reduceGT, Int.reduceGE, Int.reduceNe, true_and, and_true, true_or, or_true, false_or, or_false, and_self, or_self, if_true, if_false, reduceIte, not_true_eq_false, not_false_eq_true, Int.reduceEq, Int.reduceNe, Int.reduceLT, Int.reduceLE, Int.reduceAdd, Int.reduceSub, Int.reduceMul, Int.reduceNeg, Nat.reduceAdd, Nat.reduceLeDiff, Nat.reduceEqDiff, ne_eq, List.length_cons, List.length_nil, Nat.reduceSub, k2]
    refine up_nat (P := fun k => ∀ H', Fx tkC V H' → H' 4 3 = 256 * bt V 0 + bt V 1 → H' 4 4 = hdS V k → H' 18 = V 18 → R (d + 4) CW_takeImage (blk CW_takeImage 2) [va 4, va 2, vi ((2 + k : Nat) : Int)] [] H' Q) ?_ ?_ 0 (Nat.zero_le 8) _ ((Fx.rf.hs (c := 4) (j := 3) rfl).hs (c := 4) (j := 4) rfl) ((hs2 (by decide)).trans hs_same) hs_same ((hs_ne (by decide)).trans (hs_ne (by decide)))
    · intro H' a1 a2 a3 a4
      rw [e_CW_takeImage_2]
      simp only [k_CW_takeImage_2, e_CW_takeImage_3, k_CW_takeImage_3, rr, sh, Nat.reduceLT, Nat.reduceMul, Int.reduceToNat, Int.reduceGT, Int.reduceGE, Int.reduceNe, true_and, and_true, true_or, or_true, false_or, or_false, and_self, or_self, if_true, if_false, reduceIte, not_true_eq_false, not_false_eq_true, Int.reduceEq, Int.reduceNe, Int.reduceLT, Int.reduceLE, Int.reduceAdd, Int.reduceSub, Int.reduceMul, Int.reduceNeg, Nat.reduceAdd, Nat.reduceLeDiff, Nat.reduceEqDiff, ne_eq, List.length_cons, List.length_nil, Nat.reduceSub, Int.le_refl]
      refine up_nat (P := fun k => ∀ H', Fx tkC V H' → H' 4 3 = 256 * bt V 0 + bt V 1 → H' 4 4 = hdS V 8 → (∀ q : Nat, q < 12 → H' 18 q = if q < k then who V q - 1 else V 18 q) → (∀ q : Nat, q < k → H' 19 q = rgt V q) → R (d + 4) CW_takeImage (blk CW_takeImage 4) [va 4, va 2, vi k] [] H' Q) ?_ ?_ 0 (Nat.zero_le (nS V)) _ a1 a2 a3 (fun q _ => ?_) (fun q hq => absurd hq (Nat.not_lt_zero q))
      · intro H2 b1 b2 b3 b4 b5
        rw [e_CW_takeImage_4]
        simp only [k_CW_takeImage_4, e_CW_takeImage_5, k_CW_takeImage_5, rr, sh, Nat.reduceLT, Nat.reduceMul, Int.reduceToNat, Int.reduceGT, Int.reduceGE, Int.reduceNe, true_and, and_true, true_or, or_true, false_or, or_false, and_self, or_self, if_true, if_false, reduceIte, not_true_eq_false, not_false_eq_true, Int.reduceEq, Int.reduceNe, Int.reduceLT, Int.reduceLE, Int.reduceAdd, Int.reduceSub, Int.reduceMul, Int.reduceNeg, Nat.reduceAdd, Nat.reduceLeDiff, Nat.reduceEqDiff, ne_eq, List.length_cons, List.length_nil, Nat.reduceSub, (f b1).2.2.2.1, (f b1).2.2.2.2.2.2, z1, Int.le_refl]
        refine hQ z _ ⟨b1.hs (c := 4) (j := 11) rfl, (hs2 (by decide)).trans b2, (hs2 (by decide)).trans b3, hs_same, fun k hk => ?_, fun k hk => ?_⟩
        · rw [hs_ne (by decide)]; exact b4 k hk
        · rw [hs_ne (by decide)]; exact b5 k hk
      · intro k hk ih
        have c1 : ¬ (nS V : Int) ≤ k := by clear ih z1 h0 z; omega
        have j1 : 0 ≤ (k : Int) ∧ (k : Int) < 12 := by clear ih z1 h0 z; omega
        have kw := w32_s (n := k) (by clear ih z1 h0 z; omega)
        obtain ⟨i1, i2⟩ := ix10 hk hn.2
        have hb1 : ((10 + 2 * k : Nat) : Int) < V 2 1 := by rw [hL]; clear ih z1 h0 z i1 i2 kw; omega
        have hb2 : ((11 + 2 * k : Nat) : Int) < V 2 1 := by rw [hL]; clear ih z1 h0 z i1 i2 kw; omega
        have hbr : 0 ≤ who V k ∧ who V k < 256 := bt_rng hT hb1
        have w1 : w32 (who V k - 1) = who V k - 1 := w32_id (by clear ih z1 h0 z i1 i2 kw; omega) (by clear ih z1 h0 z i1 i2 kw; omega)
        intro H2 b1 b2 b3 b4 b5
        have b1' : ∀ v, Fx tkC V (hs H2 18 k v) := fun v => b1.hs (c := 18) rfl
        have k1 : ∀ {Q : AV → Hp → Prop}, CC (d + 3) TP_byteAt [va 2, vi ((10 + 2 * k : Nat) : Int)] H2 Q = Q (vi (who V k)) H2 := fun {Q} => q_byteAt hT (f b1).1 (f b1).2.1 (f b1).2.2.1 hb1
        have k2 : ∀ {Q : AV → Hp → Prop} v, CC (d + 3) TP_byteAt [va 2, vi ((11 + 2 * k : Nat) : Int)] (hs H2 18 k v) Q = Q (vi (rgt V k)) (hs H2 18 k v) := fun {Q} v => q_byteAt hT (f (b1' v)).1 (f (b1' v)).2.1 (f (b1' v)).2.2.1 hb2
        have y2 : ∀ v, hs H2 18 k v 4 2 = 19 := fun v => (f (b1' v)).2.2.2.2.2.1
        rw [e_CW_takeImage_4]
        simp only [k_CW_takeImage_4, rr, sh, Nat.reduceLT, Nat.reduceMul, Int.reduceToNat, Int.reduceGT, Int.reduceGE, Int.reduceNe, true_and, and_true, true_or, or_true, false_or, or_false, and_self, or_self, if_true, if_false, reduceIte, not_true_eq_false, not_false_eq_true, Int.reduceEq, Int.reduceNe, Int.reduceLT, Int.reduceLE, Int.reduceAdd, Int.reduceSub, Int.reduceMul, Int.reduceNeg, Nat.reduceAdd, Nat.reduceLeDiff, Nat.reduceEqDiff, ne_eq, List.length_cons, List.length_nil, Nat.reduceSub, (f b1).2.2.2.1, (f b1).2.2.2.2.2.2, (f b1).2.2.2.2.1, z1, c1, i1, i2, k1, k2, w1, j1, y2, kw]
        refine ih _ ((b1' _).hs (c := 19) rfl) ?_ ?_ (fun q hq => ?_) (fun q hq => ?_)
        · rw [hs_ne (by decide), hs_ne (by decide)]; exact b2
        · rw [hs_ne (by decide), hs_ne (by decide)]; exact b3
        · rw [hs_ne (by decide), hs_at]
          by_cases e : q = k
          · subst e; rw [if_pos rfl, if_pos (Nat.lt_succ_self q)]
          · rw [if_neg (fun z => e (Int.ofNat_inj.mp z)), b4 q hq]
            by_cases e2 : q < k
            · rw [if_pos e2, if_pos (Nat.lt_succ_of_lt e2)]
            · rw [if_neg e2, if_neg (fun z => e2 (Nat.lt_of_le_of_ne (Nat.le_of_lt_succ z) e))]
        · rw [hs_at]
          by_cases e : q = k
          · subst e; rw [if_pos rfl]
          · rw [if_neg (fun z => e (Int.ofNat_inj.mp z)), hs_ne (by decide)]
            exact b5 q (Nat.lt_of_le_of_ne (Nat.le_of_lt_succ hq) e)
      · rw [if_neg (Nat.not_lt_zero q), a4]
    · intro k hk ih
      have c1 : ¬ (10 : Int) ≤ ((2 + k : Nat) : Int) := by clear ih z1 h0 z; omega
      have kw := w32_s (n := 2 + k) (by clear ih z1 h0 z; omega)
      have hb1 : ((2 + k : Nat) : Int) < V 2 1 := by rw [hL]; clear ih z1 h0 z kw; omega
      intro H' a1 a2 a3 a4
      have k1 : ∀ {Q : AV → Hp → Prop}, CC (d + 3) TP_byteAt [va 2, vi ((2 + k : Nat) : Int)] H' Q = Q (vi (bt V (2 + k))) H' := fun {Q} => q_byteAt hT (f a1).1 (f a1).2.1 (f a1).2.2.1 hb1
      rw [e_CW_takeImage_2]
      simp only [k_CW_takeImage_2, rr, sh, Nat.reduceLT, Nat.reduceMul, Int.reduceToNat, Int.reduceGT, Int.reduceGE, Int.reduceNe, true_and, and_true, true_or, or_true, false_or, or_false, and_self, or_self, if_true, if_false, reduceIte, not_true_eq_false, not_false_eq_true, Int.reduceEq, Int.reduceNe, Int.reduceLT, Int.reduceLE, Int.reduceAdd, Int.reduceSub, Int.reduceMul, Int.reduceNeg, Nat.reduceAdd, Nat.reduceLeDiff, Nat.reduceEqDiff, ne_eq, List.length_cons, List.length_nil, Nat.reduceSub, c1, a3, k1, kw]
      exact ih _ (a1.hs (c := 4) (j := 4) rfl) ((hs2 (by decide)).trans a2) hs_same ((hs_ne (by decide)).trans a4)
end OC2
