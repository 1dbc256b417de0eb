/-! THE LAW on the abstract machine, text and ask as premises -/
theorem hl_n {H : Hp} {a b : Int} : ∀ l : List (Int × Int × Int), l.all (fun e => decide (¬ (a = e.1 ∧ b = e.2.1))) = true → hl l H a b = H a b
  | [], _ => rfl
  | (c, j, v) :: l, h => by
    rw [List.all_cons, Bool.and_eq_true] at h
    have h1 := of_decide_eq_true h.1
    show (if a = c ∧ b = j then v else hl l H a b) = _
    rw [if_neg h1]
    exact hl_n l h.2
theorem hl_c {H : Hp} {a : Int} : ∀ l : List (Int × Int × Int), l.all (fun e => decide (e.1 ≠ a)) = true → hl l H a = H a
  | [], _ => rfl
  | (c, j, v) :: l, h => by
    rw [List.all_cons, Bool.and_eq_true] at h
    have h1 := of_decide_eq_true h.1
    show hs (hl l H) c j v a = _
    rw [hs_ne (fun z => h1 z.symm)]
    exact hl_c l h.2
theorem wl0_eq {H : Hp} : hl wl0 H = hl wl_MO_71 (hs (hl wl_EO_1 (hs H 0 0 1)) 0 0 71) := by
  unfold wl0
  rw [hl_app]
  show hl wl_MO_71 (hs (hl (wl_EO_1 ++ [(0, 0, 1)]) H) 0 0 71) = _
  rw [hl_app]
  rfl
set_option maxRecDepth 20000 in
theorem lw_start {d : Nat} {H : Hp} {Q : AV → Hp → Prop} (h0 : H 0 0 = 0) (hQ : R (d + 41) LW_law (blk LW_law 1) [va 999, va 1, va 71, vi 0] [] (hl wl0 H) Q) : R (d + 41) LW_law (blk LW_law 0) [va 999, vu, vu, vu] [] H Q := by
  rw [wl0_eq] at hQ
  simp only [e_LW_law_0, k_LW_law_0, rr, sh, Nat.reduceLT, Nat.reduceMul, Int.reduceToNat, Int.reduceGT, Int.reduceGE, Int.reduceNe, true_and, and_true, true_or, or_true, false_or, or_false, and_self, or_self, if_true, if_false, reduceIte, not_true_eq_false, not_false_eq_true, Int.reduceEq, Int.reduceNe, Int.reduceLT, Int.reduceLE, Int.reduceAdd, Int.reduceSub, Int.reduceMul, Int.reduceNeg, Nat.reduceAdd, Nat.reduceLeDiff, Nat.reduceEqDiff, ne_eq, List.length_cons, List.length_nil, Nat.reduceSub, h0, hs_app, eq_self, @q_EO_1, @wz_EO_1, @q_MO_71]
  exact hQ
set_option maxRecDepth 20000 in
theorem am_ok (pt : ∀ V, Inv0 V → Pair V (259 + 40) EO_text MO_text [va 1] [va 71]) (pa : ∀ V, Inv0 V → Pair V (259 + 40) EO_ask MO_ask [va 1] [va 71]) {L : Nat} {xs : Nat → Int32} (hL : L ≤ 3072) : AmOk L xs := by
  have k1 : hl wl0 (Hz L xs) 0 1 = L := (hl_n wl0 (by decide +kernel)).trans rfl
  have k9 : hl wl0 (Hz L xs) 999 = Hz L xs 999 := hl_c wl0 (by decide +kernel)
  have k0 : hl wl0 (Hz L xs) 0 0 = 139 := by rw [wl0_eq]; exact wz_MO_71
  have r : R (259 + 41) LW_law (blk LW_law 0) [va 999, vu, vu, vu] [] (Hz L xs) (fun r H' => r = vi 1 ∧ H' 0 0 ≤ 139) := by
    refine lw_start rfl (lw_loop (V := hl wl0 (Hz L xs)) ?_ ?_ ?_ pt pa ?_ 3073 0 (Int.le_refl 0) ?_ _ inv_0 Fr.refl)
    · rw [k1]; omega
    · rw [k1]; omega
    · intro j
      rw [k9]
      show (if (999 : Int) = 999 then (if 0 ≤ j ∧ j < L then (xs j.toNat).toInt else 0) else _) < _
      rw [if_pos rfl]
      split
      · exact Int32.toInt_lt _
      · decide
    · intro H hF
      exact ⟨rfl, by rw [hF.z, k0]; decide⟩
    · rw [k1]; omega
  obtain ⟨n, r, H1, e, rfl, h⟩ := r
  exact ⟨n, H1, e, h⟩
