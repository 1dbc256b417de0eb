/-! THE BOAT'S TEXT: the sides of a run, the reference -/
/-- the row of the run told now, n of it written -/
def SmW (P X : Hp) (L : Nat → Int) (n : Nat) : Prop := ∀ a b, fh a b = true → X a b = if a = 102 ∧ ((12 * uTx P : Nat) : Int) ≤ b ∧ b < ((12 * uTx P + n : Nat) : Int) then L (b.toNat - 12 * uTx P) else P a b
theorem fh102 {i : Nat} (h : i < 96) : fh 102 i = true := decide_eq_true (by omega)
theorem fh103 {a : Int} {i : Nat} (ha : 103 ≤ a ∧ a ≤ 104) (h : i < 8) : fh a i = true := decide_eq_true (by omega)
section PM
variable {d : Nat} {V P H : Hp} {Q : AV → Hp → Prop}
theorem SmW.put {X : Hp} {L : Nat → Int} {n : Nat} (h : SmW P X L n) : SmW P (hs X 102 ((12 * uTx P + n : Nat) : Int) (L n)) L (n + 1) := by
  intro a b q
  rw [hs_app]
  by_cases c : a = 102 ∧ b = ((12 * uTx P + n : Nat) : Int)
  · rw [if_pos c, if_pos (by omega), c.2, toNat_k, Nat.add_sub_cancel_left]
  · rw [if_neg c, h a b q]
    by_cases c2 : a = 102 ∧ ((12 * uTx P : Nat) : Int) ≤ b ∧ b < ((12 * uTx P + n : Nat) : Int)
    · rw [if_pos c2, if_pos (by omega)]
    · rw [if_neg c2, if_neg (by omega)]
theorem SmW.z (h : TmP P H) {L : Nat → Int} : SmW P H L 0 := fun a b q => by
  rw [if_neg (by omega)]
  exact h a b q
theorem SmW.full {X : Hp} {L : Nat → Int} (h : SmW P X L 12) : TmP (sidP P L) X := fun a b q => h a b q
theorem SmW.fx {X X' : Hp} {L : Nat → Int} {n : Nat} (h : SmW P X L n) (hF : ∀ a, a ≠ 71 → X' a = X a) : SmW P X' L n := fun a b q => by
  rw [hF a (fh_71 q)]
  exact h a b q
set_option maxRecDepth 20000 in
/-- the rest of a row filled: behind a fault too -/
theorem c_fillM {X : Hp} (hP : Ptr X) {b : AV} {u n : Nat} (hu : u < 8) (hn : n ≤ 12) {z : Int}
    (hQ : ∀ X', Fx sTM X X' → (∀ a, a ≠ 102 → X' a = X a) → (∀ a k : Int, (a = 102 → k < ((12 * u + n : Nat) : Int) ∨ ((12 * u + 12 : Nat) : Int) ≤ k) → X' a k = X a k) → (∀ k : Nat, n ≤ k → k < 12 → X' 102 ((12 * u + k : Nat) : Int) = 0) → Q vu X') : R (d + 2) MO_sidesTold (blk MO_sidesTold 12) [va 71, vi u, b, vi z, vi n] [] X Q := by
  refine up_nat (P := fun m => n ≤ m → ∀ X', Fx sTM X X' → (∀ a, a ≠ 102 → X' a = X a) → (∀ a k : Int, (a = 102 → k < ((12 * u + n : Nat) : Int) ∨ ((12 * u + 12 : Nat) : Int) ≤ k) → X' a k = X a k) → (∀ k : Nat, n ≤ k → k < m → X' 102 ((12 * u + k : Nat) : Int) = 0) → R (d + 2) MO_sidesTold (blk MO_sidesTold 12) [va 71, vi u, b, vi z, vi m] [] X' Q) (n := 12) ?_ ?_ n hn (Nat.le_refl _) X Fx.rf (fun _ _ => rfl) (fun _ _ _ => rfl) (fun k h1 h2 => absurd h2 (Nat.not_lt.mpr h1))
  · intro _ X' h1 h2 h3 h4
    rw [e_MO_sidesTold_12]
    simp only [k_MO_sidesTold_12, e_MO_sidesTold_13, k_MO_sidesTold_13, rr, sh, Nat.reduceLT, Nat.reduceMul, Int.reduceToNat, Int.reduceGT, Int.reduceGE, Int.reduceNe, true_and, and_true, true_or, or_true, false_or, or_false, and_self, or_self, if_true, if_false, reduceIte, not_true_eq_false, not_false_eq_true, Int.reduceEq, Int.reduceNe, Int.reduceLT, Int.reduceLE, Int.reduceAdd, Int.reduceSub, Int.reduceMul, Int.reduceNeg, Nat.reduceAdd, Nat.reduceLeDiff, Nat.reduceEqDiff, ne_eq, List.length_cons, List.length_nil, Nat.reduceSub, show (12 : Int) ≤ ((12 : Nat) : Int) by decide]
    exact hQ X' h1 h2 h3 h4
  · intro m hm ih hnm X' h1 h2 h3 h4
    have b1 : 12 * u + m < 96 := by clear ih; omega
    have ih' := ih (Nat.le_succ_of_le hnm) (hs X' 102 ((12 * u + m : Nat) : Int) 0) (h1.hs (sTM_fh (fh102 b1))) (fun a ha => by rw [hs_ne ha]; exact h2 a ha) (fun a k ha => by
      rw [hs2 (fun z => by have := ha z.1; have := z.2; clear ih; omega)]
      exact h3 a k ha) (fun k q1 q2 => by
      by_cases c : k = m
      · rw [c]; exact hs_same
      · rw [hs2 (fun z => by have := z.2; clear ih; omega)]
        exact h4 k q1 (lt_sN q2 c))
    have c1 : ¬ (12 : Int) ≤ (m : Int) := il_n hm
    have f : X' 71 40 = 102 := by rw [h2 71 (by decide)]; exact hP (71, 40, 102) (by decide +kernel)
    have j1 : 0 ≤ ((12 * u + m : Nat) : Int) ∧ ((12 * u + m : Nat) : Int) < 192 := ix_n (Nat.lt_trans b1 (by decide))
    have w1 : w32 (w32 (12 * (u : Int)) + m) = ((12 * u + m : Nat) : Int) := by rw [w_mul12 (Nat.lt_trans hu (by decide)), w_add (Nat.lt_trans b1 (by decide))]
    have kw := w32_s (n := m) (Nat.lt_trans hm (by decide))
    rw [e_MO_sidesTold_12]
    simp only [k_MO_sidesTold_12, rr, sh, Nat.reduceLT, Nat.reduceMul, Int.reduceToNat, Int.reduceGT, Int.reduceGE, Int.reduceNe, true_and, and_true, true_or, or_true, false_or, or_false, and_self, or_self, if_true, if_false, reduceIte, not_true_eq_false, not_false_eq_true, Int.reduceEq, Int.reduceNe, Int.reduceLT, Int.reduceLE, Int.reduceAdd, Int.reduceSub, Int.reduceMul, Int.reduceNeg, Nat.reduceAdd, Nat.reduceLeDiff, Nat.reduceEqDiff, ne_eq, List.length_cons, List.length_nil, Nat.reduceSub, c1, f, w1, j1, kw]
    exact ih'
set_option maxRecDepth 20000 in
theorem c_sidesToldM (hP : Ptr H) (hT : TapeR V) {a : Nat} {j : Int} (hM : MRd V H a j) (hB : TxB P) (hL : TmP P H) (hu : uTx P < 8)
    (he : ∀ kk pl, sidO V a j P = .error (kk, pl) → ∀ H', Fx sTM H H' → H' 71 5 = kk → H' 71 6 = pl → Q vu H')
    (ho : ∀ e x, sidO V a j P = .ok (e, x) → ∀ H', Fx sTM H H' → MRd V H' e e → TmP (sidP P (lrS V a P)) H' → Q vu H') : CC (d + 2) MO_sidesTold [va 71, vi (uTx P)] H Q := by
  have n16 := tpN_le hT
  obtain ⟨h1, h2, h4, h5, h6, hn⟩ := id hM
  have s := skE_rng hn
  have e := enE_rng hn
  have hM1 := hM.mv s.2
  have f1 : Fx sTM H (hs H 71 2 (skE V a)) := Fx.rf.hs (c := 71) (j := 2) rfl
  have b2 : hs H 71 2 (skE V a) 71 2 = skE V a := hs_same
  have b4 : hs H 71 2 (skE V a) 71 4 = j := hM1.2.2.1
  have b5 : hs H 71 2 (skE V a) 71 5 = 0 := hM1.2.2.2.1
  have b6 : hs H 71 2 (skE V a) 71 6 = -1 := hM1.2.2.2.2.1
  have no : sidO V a j P = .error (1, (skE V a : Int)) → Q vu (hs (hs (hs H 71 2 (skE V a)) 71 5 1) 71 6 (skE V a)) := fun z => he 1 (skE V a) z _ ((f1.hs (c := 71) (j := 5) rfl).hs (c := 71) (j := 6) rfl) ((hs2 (by decide)).trans hs_same) hs_same
  by_cases c1 : ltB (bz V (skE V a)) = true
  · by_cases c2 : (skE V a : Int) = j
    · have z := no (by
        unfold sidO ltH
        rw [if_neg (fun z => by have := z.1; rw [decide_eq_false (fun w => w c2), Bool.and_false] at this; cases this)])
      subst c2
      simp only [en_MO_sidesTold, e_MO_sidesTold_0, k_MO_sidesTold_0, e_MO_sidesTold_1, k_MO_sidesTold_1, e_MO_sidesTold_2, k_MO_sidesTold_2, rr, sh, Nat.reduceLT, Nat.reduceMul, Int.reduceToNat, Int.reduceGT, Int.reduceGE, Int.reduceNe, true_and, and_true, true_or, or_true, false_or, or_false, and_self, or_self, if_true, if_false, reduceIte, not_true_eq_false, not_false_eq_true, Int.reduceEq, Int.reduceNe, Int.reduceLT, Int.reduceLE, Int.reduceAdd, Int.reduceSub, Int.reduceMul, Int.reduceNeg, Nat.reduceAdd, Nat.reduceLeDiff, Nat.reduceEqDiff, ne_eq, List.length_cons, List.length_nil, Nat.reduceSub, h5, q_look hT h1 h2 hn, q_isLetterM, c1, show bI true = 1 from rfl, b2, b4, q_failM b5]
      exact z
    · have cl : ltH V a j = true := by unfold ltH; rw [c1, decide_eq_true c2]; rfl
      simp only [en_MO_sidesTold, e_MO_sidesTold_0, k_MO_sidesTold_0, e_MO_sidesTold_1, k_MO_sidesTold_1, e_MO_sidesTold_3, k_MO_sidesTold_3, rr, sh, Nat.reduceLT, Nat.reduceMul, Int.reduceToNat, Int.reduceGT, Int.reduceGE, Int.reduceNe, true_and, and_true, true_or, or_true, false_or, or_false, and_self, or_self, if_true, if_false, reduceIte, not_true_eq_false, not_false_eq_true, Int.reduceEq, Int.reduceNe, Int.reduceLT, Int.reduceLE, Int.reduceAdd, Int.reduceSub, Int.reduceMul, Int.reduceNeg, Nat.reduceAdd, Nat.reduceLeDiff, Nat.reduceEqDiff, ne_eq, List.length_cons, List.length_nil, Nat.reduceSub, h5, q_look hT h1 h2 hn, q_isLetterM, c1, show bI true = 1 from rfl, b2, b4, c2]
      have L0 : SmW P (hs H 71 2 (skE V a)) (lrS V a P) 0 := SmW.z (hL.fx (S := sMM) (Fx.rf.hs (c := 71) (j := 2) rfl) sMM_fh)
      have s12 := hB.1.2
      have bad : ¬ (enE V a = skE V a + sTx P ∧ lrxB V (skE V a) (sTx P) = true) → sidO V a j P = .error (1, (skE V a : Int)) := fun z => by
        unfold sidO
        rw [if_neg (fun w => z w.2)]
      have st : ∀ k : Nat, k ≤ 12 → skE V a + k < 100000 := fun k hk => Nat.lt_of_le_of_lt (Nat.add_le_add (Nat.le_trans s.2 n16) hk) (by decide)
      clear no
      -- k letters read, all of them l, r or x, no more than there are seats
      have key : ∀ f : Nat, ∀ k : Nat, k + f = enE V a - skE V a → k ≤ sTx P → lrxB V (skE V a) k = true → ∀ X y, Fx sTM H X → MRd V X (skE V a + k) j → SmW P X (lrS V a P) k → R (d + 2) MO_sidesTold (blk MO_sidesTold 4) [va 71, vi (uTx P), vi (skE V a), vi k, y] [] X Q := by
        intro f
        induction f with
        | zero =>
          intro k hk hks hx X y hF hX hS
          have ek : skE V a + k = enE V a := by rw [Nat.add_zero] at hk; rw [hk]; exact Nat.add_sub_cancel' e.2.2
          rw [ek] at hX
          have hv := hX.1
          have g0 := hv.1
          have g3 := hv.2.1
          have a2 := hX.2.1
          have PX := ptr_tm hP hF
          have p29 : X 71 29 = 91 := PX (71, 29, 91) (by decide +kernel)
          have k12 : k ≤ 12 := Nat.le_trans hks s12
          have h0 : X 91 0 = sTx P := by
            have := hS 91 0 rfl
            rw [if_neg (fun z => absurd z.1 (by decide))] at this
            rw [this]; exact hB.1.1
          have aft : R (d + 2) MO_sidesTold (blk MO_sidesTold 10) [va 71, vi (uTx P), vi (skE V a), vi k, y] [] X Q := by
            have F4 : Fx sTM H (hs X 71 4 (enE V a)) := hF.hs (c := 71) (j := 4) rfl
            have P4 := ptr_tm hP F4
            have p29' : hs X 71 4 (enE V a) 71 29 = 91 := (hs2 (by decide)).trans p29
            have h0' : hs X 71 4 (enE V a) 91 0 = sTx P := (hs_ne' (by decide)).trans h0
            have M4 : MRd V (hs X 71 4 (enE V a)) (enE V a) (enE V a) := ⟨hv.hs (by decide), (hs2 (by decide)).trans a2, hs_same, (hs2 (by decide)).trans hX.2.2.2.1, (hs2 (by decide)).trans hX.2.2.2.2.1, e.2.1⟩
            have k4 := M4.2.2.2.1
            by_cases c : k = sTx P
            · have eo : sidO V a j P = .ok (enE V a, 0) := by
                unfold sidO
                rw [if_pos ⟨cl, by rw [← ek, c], by rw [← c]; exact hx⟩]
              have cc : (k : Int) = (sTx P : Int) := by rw [c]
              have S4 : SmW P (hs X 71 4 (enE V a)) (lrS V a P) k := hS.fx (fun a ha => hs_ne ha)
              simp only [e_MO_sidesTold_10, k_MO_sidesTold_10, e_MO_sidesTold_11, k_MO_sidesTold_11, rr, sh, Nat.reduceLT, Nat.reduceMul, Int.reduceToNat, Int.reduceGT, Int.reduceGE, Int.reduceNe, true_and, and_true, true_or, or_true, false_or, or_false, and_self, or_self, if_true, if_false, reduceIte, not_true_eq_false, not_false_eq_true, Int.reduceEq, Int.reduceNe, Int.reduceLT, Int.reduceLE, Int.reduceAdd, Int.reduceSub, Int.reduceMul, Int.reduceNeg, Nat.reduceAdd, Nat.reduceLeDiff, Nat.reduceEqDiff, ne_eq, List.length_cons, List.length_nil, Nat.reduceSub, a2, p29', h0', cc]
              rw [← c]
              refine c_fillM P4 hu k12 (fun X' q1 q2 q3 q4 => ?_)
              have e71 : X' 71 = hs X 71 4 (enE V a) 71 := q2 71 (by decide)
              have e72 : X' 72 = hs X 71 4 (enE V a) 72 := q2 72 (by decide)
              refine ho (enE V a) 0 eo X' (F4.tr q1) ?_ (fun a' b' q => ?_)
              · unfold MRd TmV at M4 ⊢
                rw [e71, e72]
                exact M4
              · have hS4 := S4 a' b' q
                show X' a' b' = if a' = 102 ∧ _ ≤ b' ∧ b' < _ then _ else _
                by_cases c5 : a' = 102 ∧ ((12 * uTx P : Nat) : Int) ≤ b' ∧ b' < ((12 * uTx P + 12 : Nat) : Int)
                · rw [if_pos c5]
                  obtain ⟨i, hi⟩ : ∃ i : Nat, b' = ((12 * uTx P + i : Nat) : Int) := ⟨b'.toNat - 12 * uTx P, by omega⟩
                  have i12 : i < 12 := by have := c5.2.2; rw [hi] at this; omega
                  rw [c5.1, hi, toNat_k, Nat.add_sub_cancel_left]
                  by_cases c6 : k ≤ i
                  · rw [q4 i c6 i12]
                    unfold lrS
                    rw [if_neg (Nat.not_lt.mpr (c ▸ c6))]
                  · rw [q3 102 _ (fun _ => Or.inl (Int.ofNat_lt.mpr (Nat.add_lt_add_left (Nat.not_le.mp c6) _)))]
                    rw [c5.1, hi, if_pos ⟨rfl, Int.ofNat_le.mpr (Nat.le_add_right _ _), Int.ofNat_lt.mpr (Nat.add_lt_add_left (Nat.not_le.mp c6) _)⟩, toNat_k, Nat.add_sub_cancel_left] at hS4
                    exact hS4
                · rw [if_neg c5]
                  rw [if_neg (fun z => c5 ⟨z.1, z.2.1, Int.lt_of_lt_of_le z.2.2 (Int.ofNat_le.mpr (Nat.add_le_add_left k12 _))⟩)] at hS4
                  rw [q3 a' b' (fun z => ?_)]
                  · exact hS4
                  · by_cases z2 : b' < ((12 * uTx P + k : Nat) : Int)
                    · exact Or.inl z2
                    · refine Or.inr (Int.not_lt.mp (fun z3 => c5 ⟨z, Int.le_trans (Int.ofNat_le.mpr (Nat.le_add_right _ _)) (Int.not_lt.mp z2), z3⟩))
            · have eo := bad (fun z => c (Nat.add_left_cancel (ek.trans z.1)))
              have cc : ¬ (k : Int) = (sTx P : Int) := fun z => c (Int.ofNat_inj.mp z)
              have F5 : Fx sTM H (hs (hs (hs X 71 4 (enE V a)) 71 5 1) 71 6 (skE V a)) := (F4.hs (c := 71) (j := 5) rfl).hs (c := 71) (j := 6) rfl
              simp only [e_MO_sidesTold_10, k_MO_sidesTold_10, e_MO_sidesTold_11, k_MO_sidesTold_11, rr, sh, Nat.reduceLT, Nat.reduceMul, Int.reduceToNat, Int.reduceGT, Int.reduceGE, Int.reduceNe, true_and, and_true, true_or, or_true, false_or, or_false, and_self, or_self, if_true, if_false, reduceIte, not_true_eq_false, not_false_eq_true, Int.reduceEq, Int.reduceNe, Int.reduceLT, Int.reduceLE, Int.reduceAdd, Int.reduceSub, Int.reduceMul, Int.reduceNeg, Nat.reduceAdd, Nat.reduceLeDiff, Nat.reduceEqDiff, ne_eq, List.length_cons, List.length_nil, Nat.reduceSub, a2, p29', h0', cc, q_failM k4]
              refine c_fillM (ptr_tm hP F5) hu k12 (fun X' q1 q2 q3 q4 => ?_)
              exact he 1 (skE V a) eo X' (F5.tr q1) (by rw [q2 71 (by decide), hs2 (by decide)]; exact hs_same) (by rw [q2 71 (by decide)]; exact hs_same)
          rw [e_MO_sidesTold_4]
          by_cases kt : enE V a < tpN V
          · have c7 : ¬ (tpN V : Int) ≤ (enE V a : Int) := il_n kt
            have j1 : 0 ≤ (enE V a : Int) ∧ (enE V a : Int) < 1600 := ix_n (Nat.lt_of_lt_of_le kt n16)
            have g2 := ma_72 hT hv kt
            simp only [k_MO_sidesTold_4, rr, sh, Nat.reduceLT, Nat.reduceMul, Int.reduceToNat, Int.reduceGT, Int.reduceGE, Int.reduceNe, true_and, and_true, true_or, or_true, false_or, or_false, and_self, or_self, if_true, if_false, reduceIte, not_true_eq_false, not_false_eq_true, Int.reduceEq, Int.reduceNe, Int.reduceLT, Int.reduceLE, Int.reduceAdd, Int.reduceSub, Int.reduceMul, Int.reduceNeg, Nat.reduceAdd, Nat.reduceLeDiff, Nat.reduceEqDiff, ne_eq, List.length_cons, List.length_nil, Nat.reduceSub, a2, g0, g2, g3, c7, j1, q_isLetterM, enE_nl hn, show bI false = 0 from rfl]
            exact aft
          · have c7 : (tpN V : Int) ≤ (enE V a : Int) := il_y (Nat.not_lt.mp kt)
            simp only [k_MO_sidesTold_4, rr, sh, Nat.reduceLT, Nat.reduceMul, Int.reduceToNat, Int.reduceGT, Int.reduceGE, Int.reduceNe, true_and, and_true, true_or, or_true, false_or, or_false, and_self, or_self, if_true, if_false, reduceIte, not_true_eq_false, not_false_eq_true, Int.reduceEq, Int.reduceNe, Int.reduceLT, Int.reduceLE, Int.reduceAdd, Int.reduceSub, Int.reduceMul, Int.reduceNeg, Nat.reduceAdd, Nat.reduceLeDiff, Nat.reduceEqDiff, ne_eq, List.length_cons, List.length_nil, Nat.reduceSub, a2, g3, c7]
            exact aft
        | succ f ih =>
          intro k hk hks hx X y hF hX hS
          have kn : k < enE V a - skE V a := by rw [← hk]; exact Nat.lt_add_of_pos_right (Nat.succ_pos f)
          have hv := hX.1
          have g0 := hv.1
          have g3 := hv.2.1
          have a2 := hX.2.1
          have PX := ptr_tm hP hF
          have p29 : X 71 29 = 91 := PX (71, 29, 91) (by decide +kernel)
          have p40 : X 71 40 = 102 := PX (71, 40, 102) (by decide +kernel)
          have h0 : X 91 0 = sTx P := by
            have := hS 91 0 rfl
            rw [if_neg (fun z => absurd z.1 (by decide))] at this
            rw [this]; exact hB.1.1
          have lt : ltB (bz V (skE V a + k)) = true := enE_lt (Nat.add_lt_of_lt_sub' kn)
          have kt : skE V a + k < tpN V := Nat.lt_of_lt_of_le (Nat.add_lt_of_lt_sub' kn) e.2.1
          have c7 : ¬ (tpN V : Int) ≤ ((skE V a + k : Nat) : Int) := il_n kt
          have j1 : 0 ≤ ((skE V a + k : Nat) : Int) ∧ ((skE V a + k : Nat) : Int) < 1600 := ix_n (Nat.lt_of_lt_of_le kt n16)
          have g2 := ma_72 hT hv kt
          have k5 := hX.2.2.2.1
          have fin : sidO V a j P = .error (1, (skE V a : Int)) → Q vu (hs (hs X 71 5 1) 71 6 (skE V a)) := fun z => he 1 (skE V a) z _ ((hF.hs (c := 71) (j := 5) rfl).hs (c := 71) (j := 6) rfl) ((hs2 (by decide)).trans hs_same) hs_same
          rw [e_MO_sidesTold_4]
          by_cases c : k = sTx P
          · have eo := bad (fun z => absurd kn (by rw [z.1, Nat.add_sub_cancel_left, c]; exact Nat.lt_irrefl _))
            have cc : (k : Int) = (sTx P : Int) := by rw [c]
            have := fin eo
            simp only [k_MO_sidesTold_4, e_MO_sidesTold_5, k_MO_sidesTold_5, rr, sh, Nat.reduceLT, Nat.reduceMul, Int.reduceToNat, Int.reduceGT, Int.reduceGE, Int.reduceNe, true_and, and_true, true_or, or_true, false_or, or_false, and_self, or_self, if_true, if_false, reduceIte, not_true_eq_false, not_false_eq_true, Int.reduceEq, Int.reduceNe, Int.reduceLT, Int.reduceLE, Int.reduceAdd, Int.reduceSub, Int.reduceMul, Int.reduceNeg, Nat.reduceAdd, Nat.reduceLeDiff, Nat.reduceEqDiff, ne_eq, List.length_cons, List.length_nil, Nat.reduceSub, a2, g0, g2, g3, c7, j1, q_isLetterM, lt, show bI true = 1 from rfl, p29, h0, cc, q_failM k5]
            exact this
          · have ks : k < sTx P := Nat.lt_of_le_of_ne hks c
            have cc : ¬ (k : Int) = (sTx P : Int) := fun z => c (Int.ofNat_inj.mp z)
            have k12 : k < 12 := Nat.lt_of_lt_of_le ks s12
            have b1 : 12 * uTx P + k < 96 := by clear ih bad fin; omega
            have el : lrS V a P k = if bz V (skE V a + k) = 108 then 1 else if bz V (skE V a + k) = 114 then 2 else 0 := if_pos ks
            have go : (bz V (skE V a + k) = 108 ∨ bz V (skE V a + k) = 114 ∨ bz V (skE V a + k) = 120) → ∀ x : Int, lrS V a P k = x → ∀ y, R (d + 2) MO_sidesTold (blk MO_sidesTold 4) [va 71, vi (uTx P), vi (skE V a), vi ((k + 1 : Nat) : Int), y] [] (hs (hs X 102 ((12 * uTx P + k : Nat) : Int) x) 71 2 ((skE V a + k + 1 : Nat) : Int)) Q := by
              intro hl x hx2 y
              subst hx2
              refine ih (k + 1) (by rw [← hk, Nat.add_assoc, Nat.add_comm 1 f]) ks ?_ _ y ((hF.hs (sTM_fh (fh102 b1))).hs (c := 71) (j := 2) rfl) ((hX.put (by decide) (by decide)).mv kt) (hS.put.fx (fun a ha => hs_ne ha))
              exact (lrx_iff _).mpr (fun q hq => by
                by_cases c : q = k
                · rw [c]; exact hl
                · exact (lrx_iff _).mp hx q (lt_sN hq c))
            have badl : ¬ (bz V (skE V a + k) = 108 ∨ bz V (skE V a + k) = 114 ∨ bz V (skE V a + k) = 120) → Q vu (hs (hs X 71 5 1) 71 6 (skE V a)) := fun z => fin (bad (fun w => z ((lrx_iff _).mp w.2 k ks)))
            clear ih bad fin
            have w1 : w32 (w32 (12 * (uTx P : Int)) + k) = ((12 * uTx P + k : Nat) : Int) := by rw [w_mul12 (Nat.lt_trans hu (by decide)), w_add (Nat.lt_trans b1 (by decide))]
            have j2 : 0 ≤ ((12 * uTx P + k : Nat) : Int) ∧ ((12 * uTx P + k : Nat) : Int) < 192 := ix_n (Nat.lt_trans b1 (by decide))
            have kw := w32_s (n := k) (Nat.lt_trans k12 (by decide))
            have aw := w32_s (n := skE V a + k) (Nat.lt_trans (st k (Nat.le_of_lt k12)) (by decide))
            have a2' : ∀ i v : Int, hs X 102 i v 71 2 = ((skE V a + k : Nat) : Int) := fun i v => (hs_ne' (by decide)).trans a2
            by_cases l1 : bz V (skE V a + k) = 108
            · have := go (Or.inl l1) 1 (by rw [el, if_pos l1])
              simp only [k_MO_sidesTold_4, e_MO_sidesTold_6, k_MO_sidesTold_6, e_MO_sidesTold_7, k_MO_sidesTold_7, e_MO_sidesTold_8, k_MO_sidesTold_8, e_MO_sidesTold_9, k_MO_sidesTold_9, rr, sh, Nat.reduceLT, Nat.reduceMul, Int.reduceToNat, Int.reduceGT, Int.reduceGE, Int.reduceNe, true_and, and_true, true_or, or_true, false_or, or_false, and_self, or_self, if_true, if_false, reduceIte, not_true_eq_false, not_false_eq_true, Int.reduceEq, Int.reduceNe, Int.reduceLT, Int.reduceLE, Int.reduceAdd, Int.reduceSub, Int.reduceMul, Int.reduceNeg, Nat.reduceAdd, Nat.reduceLeDiff, Nat.reduceEqDiff, ne_eq, List.length_cons, List.length_nil, Nat.reduceSub, a2, a2', g0, g2, g3, c7, j1, q_isLetterM, lt, show bI true = 1 from rfl, p29, p40, h0, cc, l1, w1, j2, kw, aw]
              exact this _
            · by_cases l2 : bz V (skE V a + k) = 114
              · have := go (Or.inr (Or.inl l2)) 2 (by rw [el, if_neg l1, if_pos l2])
                simp only [k_MO_sidesTold_4, e_MO_sidesTold_6, k_MO_sidesTold_6, e_MO_sidesTold_7, k_MO_sidesTold_7, e_MO_sidesTold_8, k_MO_sidesTold_8, e_MO_sidesTold_9, k_MO_sidesTold_9, rr, sh, Nat.reduceLT, Nat.reduceMul, Int.reduceToNat, Int.reduceGT, Int.reduceGE, Int.reduceNe, true_and, and_true, true_or, or_true, false_or, or_false, and_self, or_self, if_true, if_false, reduceIte, not_true_eq_false, not_false_eq_true, Int.reduceEq, Int.reduceNe, Int.reduceLT, Int.reduceLE, Int.reduceAdd, Int.reduceSub, Int.reduceMul, Int.reduceNeg, Nat.reduceAdd, Nat.reduceLeDiff, Nat.reduceEqDiff, ne_eq, List.length_cons, List.length_nil, Nat.reduceSub, a2, a2', g0, g2, g3, c7, j1, q_isLetterM, lt, show bI true = 1 from rfl, p29, p40, h0, cc, l2, w1, j2, kw, aw]
                exact this _
              · by_cases l3 : bz V (skE V a + k) = 120
                · have := go (Or.inr (Or.inr l3)) 0 (by rw [el, if_neg l1, if_neg l2])
                  simp only [k_MO_sidesTold_4, e_MO_sidesTold_6, k_MO_sidesTold_6, e_MO_sidesTold_7, k_MO_sidesTold_7, e_MO_sidesTold_8, k_MO_sidesTold_8, e_MO_sidesTold_9, k_MO_sidesTold_9, rr, sh, Nat.reduceLT, Nat.reduceMul, Int.reduceToNat, Int.reduceGT, Int.reduceGE, Int.reduceNe, true_and, and_true, true_or, or_true, false_or, or_false, and_self, or_self, if_true, if_false, reduceIte, not_true_eq_false, not_false_eq_true, Int.reduceEq, Int.reduceNe, Int.reduceLT, Int.reduceLE, Int.reduceAdd, Int.reduceSub, Int.reduceMul, Int.reduceNeg, Nat.reduceAdd, Nat.reduceLeDiff, Nat.reduceEqDiff, ne_eq, List.length_cons, List.length_nil, Nat.reduceSub, a2, a2', g0, g2, g3, c7, j1, q_isLetterM, lt, show bI true = 1 from rfl, p29, p40, h0, cc, l3, w1, j2, kw, aw]
                  exact this _
                · have := badl (fun z => z.elim l1 (fun z => z.elim l2 l3))
                  simp only [k_MO_sidesTold_4, e_MO_sidesTold_5, k_MO_sidesTold_5, rr, sh, Nat.reduceLT, Nat.reduceMul, Int.reduceToNat, Int.reduceGT, Int.reduceGE, Int.reduceNe, true_and, and_true, true_or, or_true, false_or, or_false, and_self, or_self, if_true, if_false, reduceIte, not_true_eq_false, not_false_eq_true, Int.reduceEq, Int.reduceNe, Int.reduceLT, Int.reduceLE, Int.reduceAdd, Int.reduceSub, Int.reduceMul, Int.reduceNeg, Nat.reduceAdd, Nat.reduceLeDiff, Nat.reduceEqDiff, ne_eq, List.length_cons, List.length_nil, Nat.reduceSub, a2, g0, g2, g3, c7, j1, q_isLetterM, lt, show bI true = 1 from rfl, p29, p40, h0, cc, l1, l2, l3, q_failM k5]
                  exact this
      exact key (enE V a - skE V a) 0 (Nat.zero_add _) (Nat.zero_le _) rfl _ vu f1 hM1 L0
  · have c1' : ltB (bz V (skE V a)) = false := by simpa using c1
    have z := no (by
      unfold sidO ltH
      rw [if_neg (fun z => by have := z.1; rw [c1', Bool.false_and] at this; cases this)])
    simp only [en_MO_sidesTold, e_MO_sidesTold_0, k_MO_sidesTold_0, e_MO_sidesTold_1, k_MO_sidesTold_1, e_MO_sidesTold_2, k_MO_sidesTold_2, rr, sh, Nat.reduceLT, Nat.reduceMul, Int.reduceToNat, Int.reduceGT, Int.reduceGE, Int.reduceNe, true_and, and_true, true_or, or_true, false_or, or_false, and_self, or_self, if_true, if_false, reduceIte, not_true_eq_false, not_false_eq_true, Int.reduceEq, Int.reduceNe, Int.reduceLT, Int.reduceLE, Int.reduceAdd, Int.reduceSub, Int.reduceMul, Int.reduceNeg, Nat.reduceAdd, Nat.reduceLeDiff, Nat.reduceEqDiff, ne_eq, List.length_cons, List.length_nil, Nat.reduceSub, h5, q_look hT h1 h2 hn, q_isLetterM, c1', show bI false = 0 from rfl, b2, q_failM b5]
    exact z
end PM
section PN
variable {d : Nat} {V P H : Hp} {Q : AV → Hp → Prop}
theorem q_sides' {u : Int} (hb : H 71 5 ≠ 0) : CC d MO_sidesTold [va 71, vi u] H Q = Q vu H := by
  refine CC_dt fun Q hQ => ?_
  simp only [en_MO_sidesTold, e_MO_sidesTold_0, k_MO_sidesTold_0, rr, sh, Nat.reduceLT, Nat.reduceMul, Int.reduceToNat, Int.reduceGT, Int.reduceGE, Int.reduceNe, true_and, and_true, true_or, or_true, false_or, or_false, and_self, or_self, if_true, if_false, reduceIte, not_true_eq_false, not_false_eq_true, Int.reduceEq, Int.reduceNe, Int.reduceLT, Int.reduceLE, Int.reduceAdd, Int.reduceSub, Int.reduceMul, Int.reduceNeg, Nat.reduceAdd, Nat.reduceLeDiff, Nat.reduceEqDiff, ne_eq, List.length_cons, List.length_nil, Nat.reduceSub, hb]
  exact hQ
set_option maxRecDepth 20000 in
theorem c_runToldM (hP : Ptr H) (hW : Wds H) (hT : TapeR V) {a : Nat} {j b : Int} (hM : MRd V H a j) (hB : TxB P) (hL : TmP P H)
    (hfull : uTx P = 8 → ∀ H', Fx sTM H H' → H' 71 5 = 5 → H' 71 6 = b → Q vu H')
    (he : ¬ uTx P = 8 → ∀ kk pl, runO V a j P = .error (kk, pl) → ∀ H', Fx sTM H H' → H' 71 5 = kk → H' 71 6 = pl → Q vu H')
    (ho : ¬ uTx P = 8 → ∀ e P', runO V a j P = .ok (e, P') → ∀ H', Fx sTM H H' → MRd V H' e e → TmP P' H' → Q vu H') : CC (d + 4) MO_runTold [va 71, vi b] H Q := by
  have hb := hM.2.2.2.1
  have h0 : H 91 2 = uTx P := (hL 91 2 rfl).trans hB.2.2.1.1
  have f := mo_f hP
  by_cases c : uTx P = 8
  · have c' : ((uTx P : Nat) : Int) = 8 := by rw [c]; rfl
    have qf : ∀ {Q : AV → Hp → Prop}, CC (d + 3) MO_isFull [va 71, vi 2, vi 8, vi b] H Q = Q (vi 1) (hs (hs H 71 5 5) 71 6 b) := fun {Q} => by rw [q_isFull (d := d + 2) hb hP (by decide) h0, if_pos c']
    simp only [en_MO_runTold, e_MO_runTold_0, k_MO_runTold_0, rr, sh, Nat.reduceLT, Nat.reduceMul, Int.reduceToNat, Int.reduceGT, Int.reduceGE, Int.reduceNe, true_and, and_true, true_or, or_true, false_or, or_false, and_self, or_self, if_true, if_false, reduceIte, not_true_eq_false, not_false_eq_true, Int.reduceEq, Int.reduceNe, Int.reduceLT, Int.reduceLE, Int.reduceAdd, Int.reduceSub, Int.reduceMul, Int.reduceNeg, Nat.reduceAdd, Nat.reduceLeDiff, Nat.reduceEqDiff, ne_eq, List.length_cons, List.length_nil, Nat.reduceSub, qf]
    exact hfull c _ ((Fx.rf.hs (c := 71) (j := 5) rfl).hs (c := 71) (j := 6) rfl) ((hs2 (by decide)).trans hs_same) hs_same
  · have he := he c
    have ho := ho c
    have c' : ¬ ((uTx P : Nat) : Int) = 8 := by omega
    have n8 : uTx P < 8 := by have := hB.2.2.1.2; omega
    have qf : ∀ {Q : AV → Hp → Prop}, CC (d + 3) MO_isFull [va 71, vi 2, vi 8, vi b] H Q = Q (vi 0) H := fun {Q} => by rw [q_isFull (d := d + 2) hb hP (by decide) h0, if_neg c']
    simp only [en_MO_runTold, e_MO_runTold_0, k_MO_runTold_0, e_MO_runTold_1, k_MO_runTold_1, rr, sh, Nat.reduceLT, Nat.reduceMul, Int.reduceToNat, Int.reduceGT, Int.reduceGE, Int.reduceNe, true_and, and_true, true_or, or_true, false_or, or_false, and_self, or_self, if_true, if_false, reduceIte, not_true_eq_false, not_false_eq_true, Int.reduceEq, Int.reduceNe, Int.reduceLT, Int.reduceLE, Int.reduceAdd, Int.reduceSub, Int.reduceMul, Int.reduceNeg, Nat.reduceAdd, Nat.reduceLeDiff, Nat.reduceEqDiff, ne_eq, List.length_cons, List.length_nil, Nat.reduceSub, qf, f, h0]
    clear f
    refine c_sidesToldM (d := d + 1) hP hT hM hB hL n8 (fun kk pl e H' hF q5 q6 => ?_) (fun e x eo H1 hF1 hM1 hL1 => ?_)
    · have k0 : H' 71 5 ≠ 0 := by rw [q5]; exact sidO_er e
      have f := mo_f (ptr_tm hP hF)
      simp only [rr, sh, Nat.reduceLT, Nat.reduceMul, Int.reduceToNat, Int.reduceGT, Int.reduceGE, Int.reduceNe, true_and, and_true, true_or, or_true, false_or, or_false, and_self, or_self, if_true, if_false, reduceIte, not_true_eq_false, not_false_eq_true, Int.reduceEq, Int.reduceNe, Int.reduceLT, Int.reduceLE, Int.reduceAdd, Int.reduceSub, Int.reduceMul, Int.reduceNeg, Nat.reduceAdd, Nat.reduceLeDiff, Nat.reduceEqDiff, ne_eq, List.length_cons, List.length_nil, Nat.reduceSub, f, k0, q_asks' k0, q_number' k0, q_signed' k0]
      exact he kk pl (by unfold runO; rw [e]; try rfl) H' hF q5 q6
    · have hP1 := ptr_tm hP hF1
      have hW1 := wds_tm hW hF1
      have f := mo_f hP1
      simp only [rr, sh, Nat.reduceLT, Nat.reduceMul, Int.reduceToNat, Int.reduceGT, Int.reduceGE, Int.reduceNe, true_and, and_true, true_or, or_true, false_or, or_false, and_self, or_self, if_true, if_false, reduceIte, not_true_eq_false, not_false_eq_true, Int.reduceEq, Int.reduceNe, Int.reduceLT, Int.reduceLE, Int.reduceAdd, Int.reduceSub, Int.reduceMul, Int.reduceNeg, Nat.reduceAdd, Nat.reduceLeDiff, Nat.reduceEqDiff, ne_eq, List.length_cons, List.length_nil, Nat.reduceSub, f]
      clear f
      refine x_wdMO (d := d) (i := 13) hT hM1 hW1 (by decide) rfl (fun kk pl e2 H' hF q5 q6 => ?_) (fun e2 u eo2 H2 hF2 hM2 => ?_)
      · have k1 : H' 71 5 ≠ 0 := by rw [q5]; exact wdO_er e2
        have f := mo_f (ptr_lm hP1 hF)
        simp only [rr, sh, Nat.reduceLT, Nat.reduceMul, Int.reduceToNat, Int.reduceGT, Int.reduceGE, Int.reduceNe, true_and, and_true, true_or, or_true, false_or, or_false, and_self, or_self, if_true, if_false, reduceIte, not_true_eq_false, not_false_eq_true, Int.reduceEq, Int.reduceNe, Int.reduceLT, Int.reduceLE, Int.reduceAdd, Int.reduceSub, Int.reduceMul, Int.reduceNeg, Nat.reduceAdd, Nat.reduceLeDiff, Nat.reduceEqDiff, ne_eq, List.length_cons, List.length_nil, Nat.reduceSub, f, k1, q_number' k1, q_asks' k1, q_signed' k1]
        exact he kk pl (by unfold runO; rw [eo]; simp only [e2]) H' (hF1.tr (fx_lt hF)) q5 q6
      · refine x_numM (d := d + 2) hT hM2 (fun kk pl e3 H' r hF q5 q6 _ _ => ?_) (fun e3 v eo3 H3 hF3 hM3 q10 => ?_)
        · have k1 : H' 71 5 ≠ 0 := by rw [q5]; exact numO_er e3
          have f := mo_f (ptr_lm hP1 (hF2.tr hF))
          simp only [rr, sh, Nat.reduceLT, Nat.reduceMul, Int.reduceToNat, Int.reduceGT, Int.reduceGE, Int.reduceNe, true_and, and_true, true_or, or_true, false_or, or_false, and_self, or_self, if_true, if_false, reduceIte, not_true_eq_false, not_false_eq_true, Int.reduceEq, Int.reduceNe, Int.reduceLT, Int.reduceLE, Int.reduceAdd, Int.reduceSub, Int.reduceMul, Int.reduceNeg, Nat.reduceAdd, Nat.reduceLeDiff, Nat.reduceEqDiff, ne_eq, List.length_cons, List.length_nil, Nat.reduceSub, f, k1, q_signed' k1, q_asks' k1]
          exact he kk pl (by unfold runO; rw [eo]; simp only [eo2, e3]) H' (hF1.tr (fx_lt (hF2.tr hF))) q5 q6
        · have F3 : Fx sLM H1 H3 := hF2.tr hF3
          have f := mo_f (ptr_lm hP1 F3)
          simp only [rr, sh, Nat.reduceLT, Nat.reduceMul, Int.reduceToNat, Int.reduceGT, Int.reduceGE, Int.reduceNe, true_and, and_true, true_or, or_true, false_or, or_false, and_self, or_self, if_true, if_false, reduceIte, not_true_eq_false, not_false_eq_true, Int.reduceEq, Int.reduceNe, Int.reduceLT, Int.reduceLE, Int.reduceAdd, Int.reduceSub, Int.reduceMul, Int.reduceNeg, Nat.reduceAdd, Nat.reduceLeDiff, Nat.reduceEqDiff, ne_eq, List.length_cons, List.length_nil, Nat.reduceSub, f]
          clear f
          refine x_wdMO (d := d) (i := 14) hT hM3 (wds_lm hW1 F3) (by decide) rfl (fun kk pl e4 H' hF q5 q6 => ?_) (fun e4 u4 eo4 H4 hF4 hM4 => ?_)
          · have k1 : H' 71 5 ≠ 0 := by rw [q5]; exact wdO_er e4
            simp only [rr, sh, Nat.reduceLT, Nat.reduceMul, Int.reduceToNat, Int.reduceGT, Int.reduceGE, Int.reduceNe, true_and, and_true, true_or, or_true, false_or, or_false, and_self, or_self, if_true, if_false, reduceIte, not_true_eq_false, not_false_eq_true, Int.reduceEq, Int.reduceNe, Int.reduceLT, Int.reduceLE, Int.reduceAdd, Int.reduceSub, Int.reduceMul, Int.reduceNeg, Nat.reduceAdd, Nat.reduceLeDiff, Nat.reduceEqDiff, ne_eq, List.length_cons, List.length_nil, Nat.reduceSub, k1, q_signed' k1]
            exact he kk pl (by unfold runO; rw [eo]; simp only [eo2, eo3, e4]) H' (hF1.tr (fx_lt (F3.tr hF))) q5 q6
          · refine x_sigM (d := d + 1) hT (by decide) hM4 (fun kk pl e5 H' r hF q5 q6 _ _ => ?_) (fun e5 w eo5 H5 hF5 hM5 => ?_)
            · have k1 : H' 71 5 ≠ 0 := by rw [q5]; exact sigO_er e5
              simp only [rr, sh, Nat.reduceLT, Nat.reduceMul, Int.reduceToNat, Int.reduceGT, Int.reduceGE, Int.reduceNe, true_and, and_true, true_or, or_true, false_or, or_false, and_self, or_self, if_true, if_false, reduceIte, not_true_eq_false, not_false_eq_true, Int.reduceEq, Int.reduceNe, Int.reduceLT, Int.reduceLE, Int.reduceAdd, Int.reduceSub, Int.reduceMul, Int.reduceNeg, Nat.reduceAdd, Nat.reduceLeDiff, Nat.reduceEqDiff, ne_eq, List.length_cons, List.length_nil, Nat.reduceSub, k1]
              exact he kk pl (by unfold runO; rw [eo]; simp only [eo2, eo3, eo4, e5]) H' (hF1.tr (fx_lt ((F3.tr hF4).tr hF))) q5 q6
            · have k1 := hM5.2.2.2.1
              have F5 : Fx sLM H1 H5 := (F3.tr hF4).tr hF5
              have G5 : Fx sTM H H5 := hF1.tr (fx_lt F5)
              have f := mo_f (ptr_lm hP1 F5)
              have hL5 := hL1.lm F5
              have eu : uTx (sidP P (lrS V a P)) = uTx P := sidP_t.2.2.1
              have h5 : H5 91 2 = uTx P := (hL5 91 2 rfl).trans (by rw [sidP_c.1 91 (by decide)]; exact hB.2.2.1.1)
              have j1 : 0 ≤ (uTx P : Int) ∧ (uTx P : Int) < 16 := ix_n (Nat.lt_trans n8 (by decide))
              have kw := w32_s (n := uTx P) (Nat.lt_trans n8 (by decide))
              simp only [e_MO_runTold_2, k_MO_runTold_2, rr, sh, Nat.reduceLT, Nat.reduceMul, Int.reduceToNat, Int.reduceGT, Int.reduceGE, Int.reduceNe, true_and, and_true, true_or, or_true, false_or, or_false, and_self, or_self, if_true, if_false, reduceIte, not_true_eq_false, not_false_eq_true, Int.reduceEq, Int.reduceNe, Int.reduceLT, Int.reduceLE, Int.reduceAdd, Int.reduceSub, Int.reduceMul, Int.reduceNeg, Nat.reduceAdd, Nat.reduceLeDiff, Nat.reduceEqDiff, ne_eq, List.length_cons, List.length_nil, Nat.reduceSub, f, k1, hs_app, false_and, and_false, h5, j1, kw]
              have eP : runP (sidP P (lrS V a P)) v w = hs (hs (hs (sidP P (lrS V a P)) 103 (uTx P) v) 104 (uTx P) w) 91 2 ((uTx P + 1 : Nat) : Int) := by unfold runP; rw [eu]
              exact ho e5 _ (by unfold runO; rw [eo]; simp only [eo2, eo3, eo4, eo5]; rfl) _ (((G5.hs (sTM_fh (fh103 (by decide) n8))).hs (sTM_fh (fh103 (by decide) n8))).hs (c := 91) (j := 2) rfl) (((hM5.put (by decide) (by decide)).put (by decide) (by decide)).put (by decide) (by decide)) (by rw [eP]; exact hL5.put.put.put)
end PN
