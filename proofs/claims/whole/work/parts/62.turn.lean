/-! turn, swap -/
section TU
variable {d : Nat} {V H : Hp} {Q : AV → Hp → Prop}
abbrev tnOk (V : Hp) (s : Int) : Prop := (0 ≤ s ∧ s < nS V) ∧ V 94 (12 + s) = 0
abbrev swOk (V : Hp) (a b : Int) : Prop := (0 ≤ a ∧ a < nS V) ∧ (0 ≤ b ∧ b < nS V) ∧ a ≠ b ∧ (V 107 a ≠ -1 ∨ V 107 b ≠ -1)
theorem q_flip {X : Hp} {p s n : Int} (h0 : X 4 0 = p) (h1 : X 4 2 = 19) (hp : shc p = 5) (hn : X p 0 = n) (hs' : 0 ≤ s ∧ s < n) (hx : X 19 s = 0 ∨ X 19 s = 1) (h12 : n ≤ 12) : CC (d + 1) CW_flip [va 4, vi s] X Q = Q vu (hs X 19 s (1 - X 19 s)) := by
  refine CC_dt fun Q hQ => ?_
  have w1 : w32 (1 - X 19 s) = 1 - X 19 s := w32_id (by omega) (by omega)
  have j1 : 0 ≤ s ∧ s < 12 := by omega
  simp only [en_CW_flip, e_CW_flip_0, k_CW_flip_0, e_CW_flip_1, k_CW_flip_1, rr, sh, Nat.reduceLT, Nat.reduceMul, Int.reduceToNat, Int.reduceGT, Int.reduceGE, Int.reduceNe, true_and, and_true, true_or, or_true, false_or, or_false, and_self, or_self, if_true, if_false, reduceIte, not_true_eq_false, not_false_eq_true, Int.reduceEq, Int.reduceNe, Int.reduceLT, Int.reduceLE, Int.reduceAdd, Int.reduceSub, Int.reduceMul, Int.reduceNeg, Nat.reduceAdd, Nat.reduceLeDiff, Nat.reduceEqDiff, ne_eq, List.length_cons, List.length_nil, Nat.reduceSub, h0, h1, q_isSeat hp, hp, hn, hs', j1, w1]
  exact hQ
theorem q_exchange {X : Hp} {p s r n : Int} (h0 : X 4 0 = p) (h1 : X 4 1 = 18) (hp : shc p = 5) (hn : X p 0 = n) (hs' : 0 ≤ s ∧ s < n) (hr : 0 ≤ r ∧ r < n) (h12 : n ≤ 12) : CC (d + 1) CW_exchange [va 4, vi s, vi r] X Q = Q vu (hs (hs X 18 s (X 18 r)) 18 r (X 18 s)) := by
  refine CC_dt fun Q hQ => ?_
  have j1 : 0 ≤ s ∧ s < 12 := by omega
  have j2 : 0 ≤ r ∧ r < 12 := by omega
  have k1 : ∀ v : Int, hs X 18 s v 4 1 = 18 := fun v => by rw [hs_ne (by decide)]; exact h1
  simp only [en_CW_exchange, e_CW_exchange_0, k_CW_exchange_0, e_CW_exchange_1, k_CW_exchange_1, rr, sh, Nat.reduceLT, Nat.reduceMul, Int.reduceToNat, Int.reduceGT, Int.reduceGE, Int.reduceNe, true_and, and_true, true_or, or_true, false_or, or_false, and_self, or_self, if_true, if_false, reduceIte, not_true_eq_false, not_false_eq_true, Int.reduceEq, Int.reduceNe, Int.reduceLT, Int.reduceLE, Int.reduceAdd, Int.reduceSub, Int.reduceMul, Int.reduceNeg, Nat.reduceAdd, Nat.reduceLeDiff, Nat.reduceEqDiff, ne_eq, List.length_cons, List.length_nil, Nat.reduceSub, h0, h1, q_isSeat hp, hp, hn, hs', hr, j1, j2, k1]
  exact hQ
theorem q_changesSeats {X : Hp} {s r : Int} (h1 : X 71 50 = 107) (hs' : 0 ≤ s ∧ s < 12) (hr : 0 ≤ r ∧ r < 12) : CC d MO_changesSeats [va 71, vi s, vi r] X Q = Q vu (hs (hs X 107 s (X 107 r)) 107 r (X 107 s)) := by
  refine CC_dt fun Q hQ => ?_
  have k1 : ∀ v : Int, hs X 107 s v 71 50 = 107 := fun v => by rw [hs_ne (by decide)]; exact h1
  simp only [en_MO_changesSeats, e_MO_changesSeats_0, k_MO_changesSeats_0, rr, sh, Nat.reduceLT, Nat.reduceMul, Int.reduceToNat, Int.reduceGT, Int.reduceGE, Int.reduceNe, true_and, and_true, true_or, or_true, false_or, or_false, and_self, or_self, if_true, if_false, reduceIte, not_true_eq_false, not_false_eq_true, Int.reduceEq, Int.reduceNe, Int.reduceLT, Int.reduceLE, Int.reduceAdd, Int.reduceSub, Int.reduceMul, Int.reduceNeg, Nat.reduceAdd, Nat.reduceLeDiff, Nat.reduceEqDiff, ne_eq, List.length_cons, List.length_nil, Nat.reduceSub, h1, hs', hr, k1]
  exact hQ
theorem nt_facts (hI : Inq V) {k a b : Int} : ntH V k a b 4 0 = V 4 0 ∧ ntH V k a b 4 1 = 18 ∧ ntH V k a b 4 2 = 19 ∧ ntH V k a b (V 4 0) 0 = nS V ∧ ntH V k a b 18 = V 18 ∧ ntH V k a b 19 = V 19 := by
  refine ⟨nt_4 (by decide), (nt_4 (by decide)).trans (hI.ptr (4, 1, 18) (by decide +kernel)), (nt_4 (by decide)).trans (hI.ptr (4, 2, 19) (by decide +kernel)), ?_, nt_c (by decide), nt_c (by decide)⟩
  rw [nt_c (by rcases hI.pp with h | h <;> rw [h] <;> decide)]
  exact hI.plan.1
set_option maxRecDepth 20000 in
theorem q_turnC (hI : Inq V) (hA : ActR V) {s : Int} : CC (d + 4) EO_turn [va 1, vi s] V Q = if tnOk V s then Q (vi 1) (hs (ntH V 0 s (-1)) 19 s (1 - V 19 s)) else Q (vi 0) (hs V 70 2 (w32 (V 70 2 + 1))) := by
  have hH : Vw V V := Vw.rf
  obtain ⟨hm, a1, a2, c, hc, hc30, -⟩ := hA
  have hm2 : 0 ≤ V 4 10 ∧ V 4 10 < 30 := by rw [a1]; exact hm
  have hc2 : 0 ≤ V 4 11 ∧ V 4 11 ≤ 30 := by rw [a2, hc]; omega
  have hn := hI.boat.s
  have hn0 := hI.plan.1
  have hnl := hn.2
  clear hm a1 a2 hc
  by_cases hr : 0 ≤ s ∧ s < nS V
  · obtain ⟨k, rfl⟩ := Int.eq_ofNat_of_zero_le hr.1
    have hk : k < nS V := by omega
    obtain ⟨n0, n1, n2, n3, n4, n5⟩ := nt_facts hI (k := 0) (a := k) (b := -1)
    have z1 := shp hI
    by_cases h : V 94 (12 + k) = 0
    · rw [if_pos ⟨hr, h⟩]
      have hx : ntH V 0 k (-1) 19 k = 0 ∨ ntH V 0 k (-1) 19 k = 1 := by
        rw [n5, hI.cc.right k hk]
        split
        · exact Or.inr rfl
        · exact Or.inl rfl
      have kf : ∀ {Q : AV → Hp → Prop}, CC (d + 2) CW_flip [va 4, vi k] (ntH V 0 k (-1)) Q = Q vu (hs (ntH V 0 k (-1)) 19 k (1 - V 19 k)) := fun {Q} => by rw [q_flip n0 n2 z1 n3 hr hx (by omega), n5]
      have f := hH.f hI.ptr; have g := pl_f hH hI.pp hI.ptr; simp only [en_EO_turn, e_EO_turn_0, k_EO_turn_0, e_EO_turn_1, k_EO_turn_1, e_EO_turn_2, k_EO_turn_2, e_EO_turn_3, k_EO_turn_3, en_CW_turnSeat, e_CW_turnSeat_0, k_CW_turnSeat_0, e_CW_turnSeat_1, k_CW_turnSeat_1, e_CW_turnSeat_2, k_CW_turnSeat_2, rr, sh, Nat.reduceLT, Nat.reduceMul, Int.reduceToNat, Int.reduceGT, Int.reduceGE, Int.reduceNe, true_and, and_true, true_or, or_true, false_or, or_false, and_self, or_self, if_true, if_false, reduceIte, not_true_eq_false, not_false_eq_true, Int.reduceEq, Int.reduceNe, Int.reduceLT, Int.reduceLE, Int.reduceAdd, Int.reduceSub, Int.reduceMul, Int.reduceNeg, Nat.reduceAdd, Nat.reduceLeDiff, Nat.reduceEqDiff, ne_eq, List.length_cons, List.length_nil, Nat.reduceSub, ite10_0, ite10_1, ite10_01, Classical.not_not, f, g, q_isSeat z1, hn0, hr, q_isFixedC hI hH hk, h, q_noteAct hI.ptr hH hm2 hc2, kf] <;> clear f g
    · rw [if_neg (fun z => h z.2)]
      have f := hH.f hI.ptr; have g := pl_f hH hI.pp hI.ptr; simp only [en_EO_turn, e_EO_turn_0, k_EO_turn_0, e_EO_turn_1, k_EO_turn_1, e_EO_turn_2, k_EO_turn_2, e_EO_turn_3, k_EO_turn_3, en_CW_turnSeat, e_CW_turnSeat_0, k_CW_turnSeat_0, e_CW_turnSeat_1, k_CW_turnSeat_1, e_CW_turnSeat_2, k_CW_turnSeat_2, rr, sh, Nat.reduceLT, Nat.reduceMul, Int.reduceToNat, Int.reduceGT, Int.reduceGE, Int.reduceNe, true_and, and_true, true_or, or_true, false_or, or_false, and_self, or_self, if_true, if_false, reduceIte, not_true_eq_false, not_false_eq_true, Int.reduceEq, Int.reduceNe, Int.reduceLT, Int.reduceLE, Int.reduceAdd, Int.reduceSub, Int.reduceMul, Int.reduceNeg, Nat.reduceAdd, Nat.reduceLeDiff, Nat.reduceEqDiff, ne_eq, List.length_cons, List.length_nil, Nat.reduceSub, ite10_0, ite10_1, ite10_01, Classical.not_not, f, g, q_isSeat z1, hn0, hr, q_isFixedC hI hH hk, h, q_refuse hI.ptr hH (show (0 : Int) ≤ 2 ∧ (2 : Int) < 6 by decide)] <;> clear f g
  · rw [if_neg (fun z => hr z.1)]
    have z1 := shp hI
    have f := hH.f hI.ptr; have g := pl_f hH hI.pp hI.ptr; simp only [en_EO_turn, e_EO_turn_0, k_EO_turn_0, e_EO_turn_1, k_EO_turn_1, e_EO_turn_2, k_EO_turn_2, e_EO_turn_3, k_EO_turn_3, en_CW_turnSeat, e_CW_turnSeat_0, k_CW_turnSeat_0, e_CW_turnSeat_1, k_CW_turnSeat_1, e_CW_turnSeat_2, k_CW_turnSeat_2, rr, sh, Nat.reduceLT, Nat.reduceMul, Int.reduceToNat, Int.reduceGT, Int.reduceGE, Int.reduceNe, true_and, and_true, true_or, or_true, false_or, or_false, and_self, or_self, if_true, if_false, reduceIte, not_true_eq_false, not_false_eq_true, Int.reduceEq, Int.reduceNe, Int.reduceLT, Int.reduceLE, Int.reduceAdd, Int.reduceSub, Int.reduceMul, Int.reduceNeg, Nat.reduceAdd, Nat.reduceLeDiff, Nat.reduceEqDiff, ne_eq, List.length_cons, List.length_nil, Nat.reduceSub, ite10_0, ite10_1, ite10_01, Classical.not_not, f, g, q_isSeat z1, hn0, hr, q_refuse hI.ptr hH (show (0 : Int) ≤ 2 ∧ (2 : Int) < 6 by decide)] <;> clear f g

set_option maxRecDepth 20000 in
theorem q_swapC (hI : Inq V) (hA : ActR V) {a b : Int} : CC (d + 4) EO_swap [va 1, vi a, vi b] V Q = if swOk V a b then Q (vi 1) (hs (hs (ntH V 1 a b) 18 a (V 18 b)) 18 b (V 18 a)) else Q (vi 0) (hs V 70 2 (w32 (V 70 2 + 1))) := by
  have hH : Vw V V := Vw.rf
  obtain ⟨hm, a1, a2, c, hc, hc30, -⟩ := hA
  have hm2 : 0 ≤ V 4 10 ∧ V 4 10 < 30 := by rw [a1]; exact hm
  have hc2 : 0 ≤ V 4 11 ∧ V 4 11 ≤ 30 := by rw [a2, hc]; omega
  have hn := hI.boat.s
  have hn0 := hI.plan.1
  have hnl := hn.2
  clear hm a1 a2 hc
  have z1 := shp hI
  by_cases hr : 0 ≤ a ∧ a < nS V
  · by_cases hr2 : 0 ≤ b ∧ b < nS V
    · by_cases hne : a = b
      · rw [if_neg (fun z => z.2.2.1 hne)]
        subst hne
        have f := hH.f hI.ptr; have g := pl_f hH hI.pp hI.ptr; simp only [en_EO_swap, e_EO_swap_0, k_EO_swap_0, e_EO_swap_1, k_EO_swap_1, e_EO_swap_2, k_EO_swap_2, e_EO_swap_3, k_EO_swap_3, en_CW_swapRowers, e_CW_swapRowers_0, k_CW_swapRowers_0, e_CW_swapRowers_1, k_CW_swapRowers_1, e_CW_swapRowers_2, k_CW_swapRowers_2, e_CW_swapRowers_3, k_CW_swapRowers_3, rr, sh, Nat.reduceLT, Nat.reduceMul, Int.reduceToNat, Int.reduceGT, Int.reduceGE, Int.reduceNe, true_and, and_true, true_or, or_true, false_or, or_false, and_self, or_self, if_true, if_false, reduceIte, not_true_eq_false, not_false_eq_true, Int.reduceEq, Int.reduceNe, Int.reduceLT, Int.reduceLE, Int.reduceAdd, Int.reduceSub, Int.reduceMul, Int.reduceNeg, Nat.reduceAdd, Nat.reduceLeDiff, Nat.reduceEqDiff, ne_eq, List.length_cons, List.length_nil, Nat.reduceSub, ite10_0, ite10_1, ite10_01, Classical.not_not, f, g, q_isSeat z1, hn0, hr, q_refuse hI.ptr hH (show (0 : Int) ≤ 2 ∧ (2 : Int) < 6 by decide)] <;> clear f g
      · obtain ⟨k, rfl⟩ := Int.eq_ofNat_of_zero_le hr.1
        obtain ⟨r, rfl⟩ := Int.eq_ofNat_of_zero_le hr2.1
        have j1 : 0 ≤ (k : Int) ∧ (k : Int) < 12 := by clear hn0; omega
        have j2 : 0 ≤ (r : Int) ∧ (r : Int) < 12 := by clear hn0; omega
        have e1 := hI.cc.sits k (by clear hn0; omega)
        have e2 := hI.cc.sits r (by clear hn0; omega)
        obtain ⟨n0, n1, n2, n3, n4, n5⟩ := nt_facts hI (k := 1) (a := k) (b := r)
        have kf : ∀ {Q : AV → Hp → Prop}, CC (d + 2) CW_exchange [va 4, vi k, vi r] (ntH V 1 k r) Q = Q vu (hs (hs (ntH V 1 k r) 18 k (V 107 r)) 18 r (V 107 k)) := fun {Q} => by rw [q_exchange n0 n1 z1 n3 hr hr2 (by clear hn0; omega), n4, e1, e2]
        clear n0 n1 n2 n3 n4 n5
        rw [e1, e2]
        by_cases h1 : V 107 k = -1
        · by_cases h2 : V 107 r = -1
          · rw [if_neg (fun z => z.2.2.2.elim (fun q => q h1) (fun q => q h2))]
            have f := hH.f hI.ptr; have g := pl_f hH hI.pp hI.ptr; simp only [en_EO_swap, e_EO_swap_0, k_EO_swap_0, e_EO_swap_1, k_EO_swap_1, e_EO_swap_2, k_EO_swap_2, e_EO_swap_3, k_EO_swap_3, en_CW_swapRowers, e_CW_swapRowers_0, k_CW_swapRowers_0, e_CW_swapRowers_1, k_CW_swapRowers_1, e_CW_swapRowers_2, k_CW_swapRowers_2, e_CW_swapRowers_3, k_CW_swapRowers_3, rr, sh, Nat.reduceLT, Nat.reduceMul, Int.reduceToNat, Int.reduceGT, Int.reduceGE, Int.reduceNe, true_and, and_true, true_or, or_true, false_or, or_false, and_self, or_self, if_true, if_false, reduceIte, not_true_eq_false, not_false_eq_true, Int.reduceEq, Int.reduceNe, Int.reduceLT, Int.reduceLE, Int.reduceAdd, Int.reduceSub, Int.reduceMul, Int.reduceNeg, Nat.reduceAdd, Nat.reduceLeDiff, Nat.reduceEqDiff, ne_eq, List.length_cons, List.length_nil, Nat.reduceSub, ite10_0, ite10_1, ite10_01, Classical.not_not, f, g, q_isSeat z1, hn0, hr, hr2, hne, j1, j2, e1, e2, h1, h2, q_refuse hI.ptr hH (show (0 : Int) ≤ 2 ∧ (2 : Int) < 6 by decide)] <;> clear f g e1 e2
          · rw [if_pos ⟨hr, hr2, hne, Or.inr h2⟩]
            rw [h1] at kf ⊢
            have f := hH.f hI.ptr; have g := pl_f hH hI.pp hI.ptr; simp only [en_EO_swap, e_EO_swap_0, k_EO_swap_0, e_EO_swap_1, k_EO_swap_1, e_EO_swap_2, k_EO_swap_2, e_EO_swap_3, k_EO_swap_3, en_CW_swapRowers, e_CW_swapRowers_0, k_CW_swapRowers_0, e_CW_swapRowers_1, k_CW_swapRowers_1, e_CW_swapRowers_2, k_CW_swapRowers_2, e_CW_swapRowers_3, k_CW_swapRowers_3, rr, sh, Nat.reduceLT, Nat.reduceMul, Int.reduceToNat, Int.reduceGT, Int.reduceGE, Int.reduceNe, true_and, and_true, true_or, or_true, false_or, or_false, and_self, or_self, if_true, if_false, reduceIte, not_true_eq_false, not_false_eq_true, Int.reduceEq, Int.reduceNe, Int.reduceLT, Int.reduceLE, Int.reduceAdd, Int.reduceSub, Int.reduceMul, Int.reduceNeg, Nat.reduceAdd, Nat.reduceLeDiff, Nat.reduceEqDiff, ne_eq, List.length_cons, List.length_nil, Nat.reduceSub, ite10_0, ite10_1, ite10_01, Classical.not_not, f, g, q_isSeat z1, hn0, hr, hr2, hne, j1, j2, e1, e2, h1, h2, q_noteAct hI.ptr hH hm2 hc2, kf] <;> clear f g e1 e2
        · rw [if_pos ⟨hr, hr2, hne, Or.inl h1⟩]
          have f := hH.f hI.ptr; have g := pl_f hH hI.pp hI.ptr; simp only [en_EO_swap, e_EO_swap_0, k_EO_swap_0, e_EO_swap_1, k_EO_swap_1, e_EO_swap_2, k_EO_swap_2, e_EO_swap_3, k_EO_swap_3, en_CW_swapRowers, e_CW_swapRowers_0, k_CW_swapRowers_0, e_CW_swapRowers_1, k_CW_swapRowers_1, e_CW_swapRowers_2, k_CW_swapRowers_2, e_CW_swapRowers_3, k_CW_swapRowers_3, rr, sh, Nat.reduceLT, Nat.reduceMul, Int.reduceToNat, Int.reduceGT, Int.reduceGE, Int.reduceNe, true_and, and_true, true_or, or_true, false_or, or_false, and_self, or_self, if_true, if_false, reduceIte, not_true_eq_false, not_false_eq_true, Int.reduceEq, Int.reduceNe, Int.reduceLT, Int.reduceLE, Int.reduceAdd, Int.reduceSub, Int.reduceMul, Int.reduceNeg, Nat.reduceAdd, Nat.reduceLeDiff, Nat.reduceEqDiff, ne_eq, List.length_cons, List.length_nil, Nat.reduceSub, ite10_0, ite10_1, ite10_01, Classical.not_not, f, g, q_isSeat z1, hn0, hr, hr2, hne, j1, j2, e1, e2, h1, q_noteAct hI.ptr hH hm2 hc2, kf] <;> clear f g e1 e2
    · rw [if_neg (fun z => hr2 z.2.1)]
      have f := hH.f hI.ptr; have g := pl_f hH hI.pp hI.ptr; simp only [en_EO_swap, e_EO_swap_0, k_EO_swap_0, e_EO_swap_1, k_EO_swap_1, e_EO_swap_2, k_EO_swap_2, e_EO_swap_3, k_EO_swap_3, en_CW_swapRowers, e_CW_swapRowers_0, k_CW_swapRowers_0, e_CW_swapRowers_1, k_CW_swapRowers_1, e_CW_swapRowers_2, k_CW_swapRowers_2, e_CW_swapRowers_3, k_CW_swapRowers_3, rr, sh, Nat.reduceLT, Nat.reduceMul, Int.reduceToNat, Int.reduceGT, Int.reduceGE, Int.reduceNe, true_and, and_true, true_or, or_true, false_or, or_false, and_self, or_self, if_true, if_false, reduceIte, not_true_eq_false, not_false_eq_true, Int.reduceEq, Int.reduceNe, Int.reduceLT, Int.reduceLE, Int.reduceAdd, Int.reduceSub, Int.reduceMul, Int.reduceNeg, Nat.reduceAdd, Nat.reduceLeDiff, Nat.reduceEqDiff, ne_eq, List.length_cons, List.length_nil, Nat.reduceSub, ite10_0, ite10_1, ite10_01, Classical.not_not, f, g, q_isSeat z1, hn0, hr, hr2, q_refuse hI.ptr hH (show (0 : Int) ≤ 2 ∧ (2 : Int) < 6 by decide)] <;> clear f g
  · rw [if_neg (fun z => hr z.1)]
    have f := hH.f hI.ptr; have g := pl_f hH hI.pp hI.ptr; simp only [en_EO_swap, e_EO_swap_0, k_EO_swap_0, e_EO_swap_1, k_EO_swap_1, e_EO_swap_2, k_EO_swap_2, e_EO_swap_3, k_EO_swap_3, en_CW_swapRowers, e_CW_swapRowers_0, k_CW_swapRowers_0, e_CW_swapRowers_1, k_CW_swapRowers_1, e_CW_swapRowers_2, k_CW_swapRowers_2, e_CW_swapRowers_3, k_CW_swapRowers_3, rr, sh, Nat.reduceLT, Nat.reduceMul, Int.reduceToNat, Int.reduceGT, Int.reduceGE, Int.reduceNe, true_and, and_true, true_or, or_true, false_or, or_false, and_self, or_self, if_true, if_false, reduceIte, not_true_eq_false, not_false_eq_true, Int.reduceEq, Int.reduceNe, Int.reduceLT, Int.reduceLE, Int.reduceAdd, Int.reduceSub, Int.reduceMul, Int.reduceNeg, Nat.reduceAdd, Nat.reduceLeDiff, Nat.reduceEqDiff, ne_eq, List.length_cons, List.length_nil, Nat.reduceSub, ite10_0, ite10_1, ite10_01, Classical.not_not, f, g, q_isSeat z1, hn0, hr, q_refuse hI.ptr hH (show (0 : Int) ≤ 2 ∧ (2 : Int) < 6 by decide)] <;> clear f g
/-! the reference's -/
theorem q_isSeatM (hM : Inm V) (hH : Vw V H) {s : Int} : CC (d + 1) MO_isSeat [va 71, vi s] H Q = Q (vi (if 0 ≤ s ∧ s < nS V then 1 else 0)) H := by
  have hn := hM.boat.s
  have w9 : w32 ((nS V : Int) - 1) = nS V - 1 := w32_id (by omega) (by omega)
  have e9 : (0 ≤ s ∧ s ≤ (nS V : Int) - 1) = (0 ≤ s ∧ s < (nS V : Int)) := propext ⟨fun z => by omega, fun z => by omega⟩
  clear e9
  by_cases hr : 0 ≤ s ∧ s < (nS V : Int)
  · have hr' : 0 ≤ s ∧ s ≤ (nS V : Int) - 1 := by omega
    rw [if_pos hr]
    have f := hH.f hM.ptr; simp only [en_MO_isSeat, e_MO_isSeat_0, k_MO_isSeat_0, en_MO_seats, e_MO_seats_0, k_MO_seats_0, rr, sh, Nat.reduceLT, Nat.reduceMul, Int.reduceToNat, Int.reduceGT, Int.reduceGE, Int.reduceNe, true_and, and_true, true_or, or_true, false_or, or_false, and_self, or_self, if_true, if_false, reduceIte, not_true_eq_false, not_false_eq_true, Int.reduceEq, Int.reduceNe, Int.reduceLT, Int.reduceLE, Int.reduceAdd, Int.reduceSub, Int.reduceMul, Int.reduceNeg, Nat.reduceAdd, Nat.reduceLeDiff, Nat.reduceEqDiff, ne_eq, List.length_cons, List.length_nil, Nat.reduceSub, ite10_0, ite10_1, ite10_01, Classical.not_not, f, q_isIn, hn.1, w9, hr'] <;> clear f w9
  · have hr' : ¬ (0 ≤ s ∧ s ≤ (nS V : Int) - 1) := by omega
    rw [if_neg hr]
    have f := hH.f hM.ptr; simp only [en_MO_isSeat, e_MO_isSeat_0, k_MO_isSeat_0, en_MO_seats, e_MO_seats_0, k_MO_seats_0, rr, sh, Nat.reduceLT, Nat.reduceMul, Int.reduceToNat, Int.reduceGT, Int.reduceGE, Int.reduceNe, true_and, and_true, true_or, or_true, false_or, or_false, and_self, or_self, if_true, if_false, reduceIte, not_true_eq_false, not_false_eq_true, Int.reduceEq, Int.reduceNe, Int.reduceLT, Int.reduceLE, Int.reduceAdd, Int.reduceSub, Int.reduceMul, Int.reduceNeg, Nat.reduceAdd, Nat.reduceLeDiff, Nat.reduceEqDiff, ne_eq, List.length_cons, List.length_nil, Nat.reduceSub, ite10_0, ite10_1, ite10_01, Classical.not_not, f, q_isIn, hn.1, w9, hr'] <;> clear f w9
set_option maxRecDepth 20000 in
theorem c_turnM (hM : Inm V) (hm : 0 ≤ V 71 56 ∧ V 71 56 < 30) (hc : 0 ≤ V 71 55 ∧ V 71 55 ≤ 30) {s : Int} (hno : ¬ tnOk V s → Q (vi 0) (hs V 73 2 (w32 (V 73 2 + 1)))) (hQ : tnOk V s → ∀ k : Nat, s = k → ∀ H2, KeepR V H2 → Q (vi 1) (hs H2 71 49 ((sdV V ^^^ 1 * 2 ^ k : Nat) : Int))) : CC (d + 3) MO_turn [va 71, vi s] V Q := by
  have hH : Vw V V := Vw.rf
  have p9 : V 71 9 = 73 := hM.ptr (71, 9, 73) (by decide +kernel)
  have p32 : V 71 32 = 94 := hM.ptr (71, 32, 94) (by decide +kernel)
  have hn := hM.boat.s
  by_cases hr : 0 ≤ s ∧ s < nS V
  · obtain ⟨k, rfl⟩ := Int.eq_ofNat_of_zero_le hr.1
    have hk : k < nS V := by omega
    have w8 : w32 (12 + (k : Int)) = 12 + k := w32_id (by omega) (by omega)
    have j1 : 0 ≤ 12 + (k : Int) ∧ 12 + (k : Int) < 24 := by omega
    by_cases h : V 94 (12 + k) = 0
    · simp only [en_MO_turn, e_MO_turn_0, k_MO_turn_0, e_MO_turn_1, k_MO_turn_1, e_MO_turn_2, k_MO_turn_2, en_MO_isFixed, e_MO_isFixed_0, k_MO_isFixed_0, e_MO_isFixed_1, k_MO_isFixed_1, e_MO_isFixed_2, k_MO_isFixed_2, rr, sh, Nat.reduceLT, Nat.reduceMul, Int.reduceToNat, Int.reduceGT, Int.reduceGE, Int.reduceNe, true_and, and_true, true_or, or_true, false_or, or_false, and_self, or_self, if_true, if_false, reduceIte, not_true_eq_false, not_false_eq_true, Int.reduceEq, Int.reduceNe, Int.reduceLT, Int.reduceLE, Int.reduceAdd, Int.reduceSub, Int.reduceMul, Int.reduceNeg, Nat.reduceAdd, Nat.reduceLeDiff, Nat.reduceEqDiff, ne_eq, List.length_cons, List.length_nil, Nat.reduceSub, sh, q_isSeatM hM hH, hr, p32, w8, j1, h]
      refine c_keeps hM.ptr hH hm hc fun H2 hK => ?_
      have e1 : H2 71 49 = V 71 49 := hK.1 71 49 rfl
      have hs1 := hM.crew.sides
      have hb := bits_lt hn.2 hs1.2
      have hp : (1 : Nat) * 2 ^ k < 4096 := by
        have := Nat.pow_le_pow_right (show 0 < 2 by decide) (show k ≤ 11 by omega)
        omega
      have w1 : b_shl 1 k = ((1 * 2 ^ k : Nat) : Int) := b_shl_nat (a := 1) (by omega) (by omega)
      have w2 : b_xor (sdV V : Int) ((1 * 2 ^ k : Nat) : Int) = ((sdV V ^^^ 1 * 2 ^ k : Nat) : Int) := b_xor_nat (by omega) (by omega)
      simp only [rr, sh, Nat.reduceLT, Nat.reduceMul, Int.reduceToNat, Int.reduceGT, Int.reduceGE, Int.reduceNe, true_and, and_true, true_or, or_true, false_or, or_false, and_self, or_self, if_true, if_false, reduceIte, not_true_eq_false, not_false_eq_true, Int.reduceEq, Int.reduceNe, Int.reduceLT, Int.reduceLE, Int.reduceAdd, Int.reduceSub, Int.reduceMul, Int.reduceNeg, Nat.reduceAdd, Nat.reduceLeDiff, Nat.reduceEqDiff, ne_eq, List.length_cons, List.length_nil, Nat.reduceSub, e1, hs1.1, w1, w2]
      exact hQ ⟨hr, h⟩ k rfl H2 hK
    · simp only [en_MO_turn, e_MO_turn_0, k_MO_turn_0, e_MO_turn_1, k_MO_turn_1, e_MO_turn_2, k_MO_turn_2, en_MO_isFixed, e_MO_isFixed_0, k_MO_isFixed_0, e_MO_isFixed_1, k_MO_isFixed_1, e_MO_isFixed_2, k_MO_isFixed_2, rr, sh, Nat.reduceLT, Nat.reduceMul, Int.reduceToNat, Int.reduceGT, Int.reduceGE, Int.reduceNe, true_and, and_true, true_or, or_true, false_or, or_false, and_self, or_self, if_true, if_false, reduceIte, not_true_eq_false, not_false_eq_true, Int.reduceEq, Int.reduceNe, Int.reduceLT, Int.reduceLE, Int.reduceAdd, Int.reduceSub, Int.reduceMul, Int.reduceNeg, Nat.reduceAdd, Nat.reduceLeDiff, Nat.reduceEqDiff, ne_eq, List.length_cons, List.length_nil, Nat.reduceSub, sh, q_isSeatM hM hH, hr, p32, w8, j1, h, p9]
      exact hno (fun z => h z.2)
  · simp only [en_MO_turn, e_MO_turn_0, k_MO_turn_0, e_MO_turn_1, k_MO_turn_1, e_MO_turn_2, k_MO_turn_2, en_MO_isFixed, e_MO_isFixed_0, k_MO_isFixed_0, e_MO_isFixed_1, k_MO_isFixed_1, e_MO_isFixed_2, k_MO_isFixed_2, rr, sh, Nat.reduceLT, Nat.reduceMul, Int.reduceToNat, Int.reduceGT, Int.reduceGE, Int.reduceNe, true_and, and_true, true_or, or_true, false_or, or_false, and_self, or_self, if_true, if_false, reduceIte, not_true_eq_false, not_false_eq_true, Int.reduceEq, Int.reduceNe, Int.reduceLT, Int.reduceLE, Int.reduceAdd, Int.reduceSub, Int.reduceMul, Int.reduceNeg, Nat.reduceAdd, Nat.reduceLeDiff, Nat.reduceEqDiff, ne_eq, List.length_cons, List.length_nil, Nat.reduceSub, sh, q_isSeatM hM hH, hr, p9]
    exact hno (fun z => hr z.1)
set_option maxRecDepth 20000 in
theorem q_canSwap (hM : Inm V) (hH : Vw V H) {a b : Int} : CC (d + 2) MO_canSwap [va 71, vi a, vi b] H Q = Q (vi (if swOk V a b then 1 else 0)) H := by
  have hn := hM.boat.s
  by_cases hr : 0 ≤ a ∧ a < nS V
  · by_cases hr2 : 0 ≤ b ∧ b < nS V
    · by_cases hne : a = b
      · rw [if_neg (fun z => z.2.2.1 hne)]
        subst hne
        have f := hH.f hM.ptr; simp only [en_MO_canSwap, e_MO_canSwap_0, k_MO_canSwap_0, e_MO_canSwap_1, k_MO_canSwap_1, e_MO_canSwap_2, k_MO_canSwap_2, e_MO_canSwap_3, k_MO_canSwap_3, rr, sh, Nat.reduceLT, Nat.reduceMul, Int.reduceToNat, Int.reduceGT, Int.reduceGE, Int.reduceNe, true_and, and_true, true_or, or_true, false_or, or_false, and_self, or_self, if_true, if_false, reduceIte, not_true_eq_false, not_false_eq_true, Int.reduceEq, Int.reduceNe, Int.reduceLT, Int.reduceLE, Int.reduceAdd, Int.reduceSub, Int.reduceMul, Int.reduceNeg, Nat.reduceAdd, Nat.reduceLeDiff, Nat.reduceEqDiff, ne_eq, List.length_cons, List.length_nil, Nat.reduceSub, ite10_0, ite10_1, ite10_01, Classical.not_not, f, q_isSeatM hM hH, hr] <;> clear f
      · have j1 : 0 ≤ a ∧ a < 12 := by omega
        have j2 : 0 ≤ b ∧ b < 12 := by omega
        by_cases h1 : V 107 a = -1
        · by_cases h2 : V 107 b = -1
          · rw [if_neg (fun z => z.2.2.2.elim (fun q => q h1) (fun q => q h2))]
            have f := hH.f hM.ptr; simp only [en_MO_canSwap, e_MO_canSwap_0, k_MO_canSwap_0, e_MO_canSwap_1, k_MO_canSwap_1, e_MO_canSwap_2, k_MO_canSwap_2, e_MO_canSwap_3, k_MO_canSwap_3, rr, sh, Nat.reduceLT, Nat.reduceMul, Int.reduceToNat, Int.reduceGT, Int.reduceGE, Int.reduceNe, true_and, and_true, true_or, or_true, false_or, or_false, and_self, or_self, if_true, if_false, reduceIte, not_true_eq_false, not_false_eq_true, Int.reduceEq, Int.reduceNe, Int.reduceLT, Int.reduceLE, Int.reduceAdd, Int.reduceSub, Int.reduceMul, Int.reduceNeg, Nat.reduceAdd, Nat.reduceLeDiff, Nat.reduceEqDiff, ne_eq, List.length_cons, List.length_nil, Nat.reduceSub, ite10_0, ite10_1, ite10_01, Classical.not_not, f, q_isSeatM hM hH, hr, hr2, hne, j1, j2, h1, h2] <;> clear f
          · rw [if_pos ⟨hr, hr2, hne, Or.inr h2⟩]
            have f := hH.f hM.ptr; simp only [en_MO_canSwap, e_MO_canSwap_0, k_MO_canSwap_0, e_MO_canSwap_1, k_MO_canSwap_1, e_MO_canSwap_2, k_MO_canSwap_2, e_MO_canSwap_3, k_MO_canSwap_3, rr, sh, Nat.reduceLT, Nat.reduceMul, Int.reduceToNat, Int.reduceGT, Int.reduceGE, Int.reduceNe, true_and, and_true, true_or, or_true, false_or, or_false, and_self, or_self, if_true, if_false, reduceIte, not_true_eq_false, not_false_eq_true, Int.reduceEq, Int.reduceNe, Int.reduceLT, Int.reduceLE, Int.reduceAdd, Int.reduceSub, Int.reduceMul, Int.reduceNeg, Nat.reduceAdd, Nat.reduceLeDiff, Nat.reduceEqDiff, ne_eq, List.length_cons, List.length_nil, Nat.reduceSub, ite10_0, ite10_1, ite10_01, Classical.not_not, f, q_isSeatM hM hH, hr, hr2, hne, j1, j2, h1, h2] <;> clear f
        · rw [if_pos ⟨hr, hr2, hne, Or.inl h1⟩]
          have f := hH.f hM.ptr; simp only [en_MO_canSwap, e_MO_canSwap_0, k_MO_canSwap_0, e_MO_canSwap_1, k_MO_canSwap_1, e_MO_canSwap_2, k_MO_canSwap_2, e_MO_canSwap_3, k_MO_canSwap_3, rr, sh, Nat.reduceLT, Nat.reduceMul, Int.reduceToNat, Int.reduceGT, Int.reduceGE, Int.reduceNe, true_and, and_true, true_or, or_true, false_or, or_false, and_self, or_self, if_true, if_false, reduceIte, not_true_eq_false, not_false_eq_true, Int.reduceEq, Int.reduceNe, Int.reduceLT, Int.reduceLE, Int.reduceAdd, Int.reduceSub, Int.reduceMul, Int.reduceNeg, Nat.reduceAdd, Nat.reduceLeDiff, Nat.reduceEqDiff, ne_eq, List.length_cons, List.length_nil, Nat.reduceSub, ite10_0, ite10_1, ite10_01, Classical.not_not, f, q_isSeatM hM hH, hr, hr2, hne, j1, j2, h1] <;> clear f
    · rw [if_neg (fun z => hr2 z.2.1)]
      have f := hH.f hM.ptr; simp only [en_MO_canSwap, e_MO_canSwap_0, k_MO_canSwap_0, e_MO_canSwap_1, k_MO_canSwap_1, e_MO_canSwap_2, k_MO_canSwap_2, e_MO_canSwap_3, k_MO_canSwap_3, rr, sh, Nat.reduceLT, Nat.reduceMul, Int.reduceToNat, Int.reduceGT, Int.reduceGE, Int.reduceNe, true_and, and_true, true_or, or_true, false_or, or_false, and_self, or_self, if_true, if_false, reduceIte, not_true_eq_false, not_false_eq_true, Int.reduceEq, Int.reduceNe, Int.reduceLT, Int.reduceLE, Int.reduceAdd, Int.reduceSub, Int.reduceMul, Int.reduceNeg, Nat.reduceAdd, Nat.reduceLeDiff, Nat.reduceEqDiff, ne_eq, List.length_cons, List.length_nil, Nat.reduceSub, ite10_0, ite10_1, ite10_01, Classical.not_not, f, q_isSeatM hM hH, hr, hr2] <;> clear f
  · rw [if_neg (fun z => hr z.1)]
    have f := hH.f hM.ptr; simp only [en_MO_canSwap, e_MO_canSwap_0, k_MO_canSwap_0, e_MO_canSwap_1, k_MO_canSwap_1, e_MO_canSwap_2, k_MO_canSwap_2, e_MO_canSwap_3, k_MO_canSwap_3, rr, sh, Nat.reduceLT, Nat.reduceMul, Int.reduceToNat, Int.reduceGT, Int.reduceGE, Int.reduceNe, true_and, and_true, true_or, or_true, false_or, or_false, and_self, or_self, if_true, if_false, reduceIte, not_true_eq_false, not_false_eq_true, Int.reduceEq, Int.reduceNe, Int.reduceLT, Int.reduceLE, Int.reduceAdd, Int.reduceSub, Int.reduceMul, Int.reduceNeg, Nat.reduceAdd, Nat.reduceLeDiff, Nat.reduceEqDiff, ne_eq, List.length_cons, List.length_nil, Nat.reduceSub, ite10_0, ite10_1, ite10_01, Classical.not_not, f, q_isSeatM hM hH, hr] <;> clear f
set_option maxRecDepth 20000 in
theorem c_swapM (hM : Inm V) (hm : 0 ≤ V 71 56 ∧ V 71 56 < 30) (hc : 0 ≤ V 71 55 ∧ V 71 55 ≤ 30) {a b : Int} (hno : ¬ swOk V a b → Q (vi 0) (hs V 73 2 (w32 (V 73 2 + 1)))) (hQ : swOk V a b → ∀ H2, KeepR V H2 → Q (vi 1) (hs (hs H2 107 a (V 107 b)) 107 b (V 107 a))) : CC (d + 3) MO_swap [va 71, vi a, vi b] V Q := by
  have hH : Vw V V := Vw.rf
  have p9 : V 71 9 = 73 := hM.ptr (71, 9, 73) (by decide +kernel)
  have p50 : V 71 50 = 107 := hM.ptr (71, 50, 107) (by decide +kernel)
  have hn := hM.boat.s
  by_cases h : swOk V a b
  · have j1 : 0 ≤ a ∧ a < 12 := ⟨h.1.1, by have := h.1.2; omega⟩
    have j2 : 0 ≤ b ∧ b < 12 := ⟨h.2.1.1, by have := h.2.1.2; omega⟩
    simp only [en_MO_swap, e_MO_swap_0, k_MO_swap_0, e_MO_swap_1, k_MO_swap_1, rr, sh, Nat.reduceLT, Nat.reduceMul, Int.reduceToNat, Int.reduceGT, Int.reduceGE, Int.reduceNe, true_and, and_true, true_or, or_true, false_or, or_false, and_self, or_self, if_true, if_false, reduceIte, not_true_eq_false, not_false_eq_true, Int.reduceEq, Int.reduceNe, Int.reduceLT, Int.reduceLE, Int.reduceAdd, Int.reduceSub, Int.reduceMul, Int.reduceNeg, Nat.reduceAdd, Nat.reduceLeDiff, Nat.reduceEqDiff, ne_eq, List.length_cons, List.length_nil, Nat.reduceSub, sh, q_canSwap hM hH, if_pos h]
    refine c_keeps hM.ptr hH hm hc fun H2 hK => ?_
    have e1 : H2 71 50 = 107 := (hK.1 71 50 rfl).trans p50
    have e2 : H2 107 = V 107 := hK.1.cell 107 (fun _ => rfl)
    simp only [rr, sh, Nat.reduceLT, Nat.reduceMul, Int.reduceToNat, Int.reduceGT, Int.reduceGE, Int.reduceNe, true_and, and_true, true_or, or_true, false_or, or_false, and_self, or_self, if_true, if_false, reduceIte, not_true_eq_false, not_false_eq_true, Int.reduceEq, Int.reduceNe, Int.reduceLT, Int.reduceLE, Int.reduceAdd, Int.reduceSub, Int.reduceMul, Int.reduceNeg, Nat.reduceAdd, Nat.reduceLeDiff, Nat.reduceEqDiff, ne_eq, List.length_cons, List.length_nil, Nat.reduceSub, q_changesSeats e1 j1 j2, e2]
    exact hQ h H2 hK
  · simp only [en_MO_swap, e_MO_swap_0, k_MO_swap_0, e_MO_swap_1, k_MO_swap_1, rr, sh, Nat.reduceLT, Nat.reduceMul, Int.reduceToNat, Int.reduceGT, Int.reduceGE, Int.reduceNe, true_and, and_true, true_or, or_true, false_or, or_false, and_self, or_self, if_true, if_false, reduceIte, not_true_eq_false, not_false_eq_true, Int.reduceEq, Int.reduceNe, Int.reduceLT, Int.reduceLE, Int.reduceAdd, Int.reduceSub, Int.reduceMul, Int.reduceNeg, Nat.reduceAdd, Nat.reduceLeDiff, Nat.reduceEqDiff, ne_eq, List.length_cons, List.length_nil, Nat.reduceSub, sh, q_canSwap hM hH, if_neg h, p9]
    exact hno h
end TU
