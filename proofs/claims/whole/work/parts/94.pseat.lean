/-! seated: the reference, whole; the pair -/
def SMr (V : Hp) (H : Hp) (b x : Int) : Option (Nat × Nat × Int) → Prop
  | none => b = -1
  | some s => b = s.2.1 ∧ x = s.2.2 ∧ ∀ k : Nat, k < nS V → H 114 k = dgt (nS V) (nS V) s.1 k
theorem SMr.fr {V H H' : Hp} {b x : Int} {st : Option (Nat × Nat × Int)} (h : SMr V H b x st) (e : H' 114 = H 114) : SMr V H' b x st := by
  cases st with
  | none => exact h
  | some s =>
    obtain ⟨h1, h2, h3⟩ := h
    exact ⟨h1, h2, fun k hk => by rw [e]; exact h3 k hk⟩
section SZ
variable {V : Hp}
def pickS (m : Nat) (q : Nat × Int) : Option (Nat × Nat × Int) → Option (Nat × Nat × Int)
  | none => some (m, q.1, q.2)
  | some s => if q.2 < s.2.2 then some (m, q.1, q.2) else some s
theorem updS_pick {m : Nat} {st : Option (Nat × Nat × Int)} {q : Nat × Int} (h : ordV V m = some q) : updS V m st = pickS m q st := by
  rw [updS_some h]; cases st <;> rfl
theorem stN_s {m : Nat} : stN (leafS V) none (m + 1) = leafS V m (stN (leafS V) none m) := rfl
set_option maxRecDepth 20000 in
theorem c_seatedM (hM : Inm V) {d : Nat} {H : Hp} {Q : AV → Hp → Prop} (hH : Vw V H) {k : Int} (hQ : ∀ H', Vw V H' → Q (vl (seatedS V k)) H') : CC (d + 6) MO_seated [va 71, vi k] H Q := by
  have hS := hM.boat.s
  have hR := hM.boat.r
  have f : ∀ {H}, Wv V H → H 71 29 = 91 ∧ H 91 = V 91 ∧ H 71 50 = 107 ∧ H 71 61 = 113 ∧ H 71 62 = 114 := fun {H} h => ⟨(h 71 29 rfl (fun z => absurd z.1 (by decide))).trans (hM.ptr (71, 29, 91) (by decide +kernel)), h.c (by decide) (fun _ => rfl), (h 71 50 rfl (fun z => absurd z.1 (by decide))).trans (hM.ptr (71, 50, 107) (by decide +kernel)), (h 71 61 rfl (fun z => absurd z.1 (by decide))).trans (hM.ptr (71, 61, 113) (by decide +kernel)), (h 71 62 rfl (fun z => absurd z.1 (by decide))).trans (hM.ptr (71, 62, 114) (by decide +kernel))⟩
  have hW : Wv V H := fun a b q _ => hH a b q
  have wn : w32 ((nS V : Int) - 1) = (nS V : Int) - 1 := w32_id (by omega) (by omega)
  by_cases hnr : nS V = nR V
  · have ce : (nR V : Int) = nS V := by rw [hnr]
    by_cases hn5 : nS V ≤ 5
    · have c5 : ¬ 5 < (nS V : Int) := Int.not_lt.mpr (Int.ofNat_le.mpr hn5)
      by_cases hkk : k = -1 ∨ k = 20 ∨ (0 ≤ k ∧ k < nS V)
      · have hQ : ∀ H', Vw V H' → Q (vl (seatA V (bestS V) k)) H' := fun H' h => by
          have := hQ H' h
          unfold seatedS at this
          rw [if_pos ⟨⟨hnr, hn5⟩, hkk⟩] at this
          exact this
        have hall := pow_le5 hn5 hn5
        have go : R (d + 6) MO_seated (blk MO_seated 2) [va 71, vi k, vi (nS V), vu, vu, vu, vu, vu, vu] [] H Q := by
          simp only [e_MO_seated_2, k_MO_seated_2, rr, sh, Nat.reduceLT, Nat.reduceMul, Int.reduceToNat, Int.reduceGT, Int.reduceGE, Int.reduceNe, true_and, and_true, true_or, or_true, false_or, or_false, and_self, or_self, if_true, if_false, reduceIte, not_true_eq_false, not_false_eq_true, Int.reduceEq, Int.reduceNe, Int.reduceLT, Int.reduceLE, Int.reduceAdd, Int.reduceSub, Int.reduceMul, Int.reduceNeg, Nat.reduceAdd, Nat.reduceLeDiff, Nat.reduceEqDiff, ne_eq, List.length_cons, List.length_nil, Nat.reduceSub]
          refine up_nat (P := fun i => R (d + 6) MO_seated (blk MO_seated 3) [va 71, vi k, vi (nS V), vi ((nS V ^ i : Nat) : Int), vi i, vu, vu, vu, vu] [] H Q) ?_ ?_ 0 (Nat.zero_le (nS V))
          · rw [e_MO_seated_3]
            simp only [k_MO_seated_3, e_MO_seated_4, k_MO_seated_4, en_MO_putsAside, e_MO_putsAside_0, k_MO_putsAside_0, rr, sh, Nat.reduceLT, Nat.reduceMul, Int.reduceToNat, Int.reduceGT, Int.reduceGE, Int.reduceNe, true_and, and_true, true_or, or_true, false_or, or_false, and_self, or_self, if_true, if_false, reduceIte, not_true_eq_false, not_false_eq_true, Int.reduceEq, Int.reduceNe, Int.reduceLT, Int.reduceLE, Int.reduceAdd, Int.reduceSub, Int.reduceMul, Int.reduceNeg, Nat.reduceAdd, Nat.reduceLeDiff, Nat.reduceEqDiff, ne_eq, List.length_cons, List.length_nil, Nat.reduceSub, Int.le_refl]
            refine up_nat (P := fun i => ∀ H', Vw V H' → (∀ j : Nat, j < i → H' 113 j = V 107 j) → R (d + 5) MO_putsAside (blk MO_putsAside 1) [va 71, vi i] [] H' _) ?_ ?_ 0 (Nat.zero_le 12) H hH (fun j hj => absurd hj (Nat.not_lt_zero j))
            · intro H1 g1 g2
              have hW1 : Wv V H1 := fun a b q _ => g1 a b q
              rw [e_MO_putsAside_1]
              simp only [k_MO_putsAside_1, e_MO_putsAside_2, k_MO_putsAside_2, rr, sh, Nat.reduceLT, Nat.reduceMul, Int.reduceToNat, Int.reduceGT, Int.reduceGE, Int.reduceNe, true_and, and_true, true_or, or_true, false_or, or_false, and_self, or_self, if_true, if_false, reduceIte, not_true_eq_false, not_false_eq_true, Int.reduceEq, Int.reduceNe, Int.reduceLT, Int.reduceLE, Int.reduceAdd, Int.reduceSub, Int.reduceMul, Int.reduceNeg, Nat.reduceAdd, Nat.reduceLeDiff, Nat.reduceEqDiff, ne_eq, List.length_cons, List.length_nil, Nat.reduceSub, Int.le_refl]
              refine up_nat (P := fun m => ∀ H' (b x : Int) (y : AV), Wv V H' → (∀ j : Nat, j < 12 → H' 113 j = V 107 j) → SMr V H' b x (stN (leafS V) none m) → R (d + 6) MO_seated (blk MO_seated 5) [va 71, vi k, vi (nS V), vi ((nS V ^ nS V : Nat) : Int), vi b, vl x, vu, vi m, y] [] H' Q) ?_ ?_ 0 (Nat.zero_le (nS V ^ nS V)) H1 (-1) 0 vu hW1 g2 rfl
              · intro H2 b x y a1 a2 a3
                rw [e_MO_seated_5]
                simp only [k_MO_seated_5, e_MO_seated_9, k_MO_seated_9, en_MO_takesBack, e_MO_takesBack_0, k_MO_takesBack_0, rr, sh, Nat.reduceLT, Nat.reduceMul, Int.reduceToNat, Int.reduceGT, Int.reduceGE, Int.reduceNe, true_and, and_true, true_or, or_true, false_or, or_false, and_self, or_self, if_true, if_false, reduceIte, not_true_eq_false, not_false_eq_true, Int.reduceEq, Int.reduceNe, Int.reduceLT, Int.reduceLE, Int.reduceAdd, Int.reduceSub, Int.reduceMul, Int.reduceNeg, Nat.reduceAdd, Nat.reduceLeDiff, Nat.reduceEqDiff, ne_eq, List.length_cons, List.length_nil, Nat.reduceSub, Int.le_refl]
                refine up_nat (P := fun i => ∀ H', Wv V H' → (∀ j : Nat, j < 12 → H' 113 j = V 107 j) → SMr V H' b x (stN (leafS V) none (nS V ^ nS V)) → (∀ j : Nat, j < i → H' 107 j = V 107 j) → (∀ j : Int, ¬ (0 ≤ j ∧ j < 12) → H' 107 j = V 107 j) → R (d + 5) MO_takesBack (blk MO_takesBack 1) [va 71, vi i] [] H' _) ?_ ?_ 0 (Nat.zero_le 12) H2 a1 a2 a3 (fun j hj => absurd hj (Nat.not_lt_zero j)) (fun j hj => a1 107 j rfl (fun z => hj ⟨z.2.1, Int.lt_of_lt_of_le z.2.2 (Int.ofNat_le.mpr hS.2)⟩))
                · intro H3 d1 d2 d3 d4 d5
                  have hV3 : Vw V H3 := fun a b' q => by
                    by_cases q2 : a = 107 ∧ 0 ≤ b' ∧ b' < nS V
                    · obtain ⟨rfl, q3, q4⟩ := q2
                      obtain ⟨j, rfl⟩ := Int.eq_ofNat_of_zero_le q3
                      exact d4 j (Nat.lt_of_lt_of_le (Int.ofNat_lt.mp q4) hS.2)
                    · exact d1 a b' q q2
                  have hA := hQ H3 hV3
                  have hbs : bestS V = stN (leafS V) none (nS V ^ nS V) := rfl
                  rw [hbs] at hA
                  rw [e_MO_takesBack_1]
                  cases hst : stN (leafS V) none (nS V ^ nS V) with
                  | none =>
                    rw [hst] at d3 hA
                    have d3 : b = -1 := d3
                    subst d3
                    simp only [k_MO_takesBack_1, e_MO_takesBack_2, k_MO_takesBack_2, e_MO_seated_13, k_MO_seated_13, rr, sh, Nat.reduceLT, Nat.reduceMul, Int.reduceToNat, Int.reduceGT, Int.reduceGE, Int.reduceNe, true_and, and_true, true_or, or_true, false_or, or_false, and_self, or_self, if_true, if_false, reduceIte, not_true_eq_false, not_false_eq_true, Int.reduceEq, Int.reduceNe, Int.reduceLT, Int.reduceLE, Int.reduceAdd, Int.reduceSub, Int.reduceMul, Int.reduceNeg, Nat.reduceAdd, Nat.reduceLeDiff, Nat.reduceEqDiff, ne_eq, List.length_cons, List.length_nil, Nat.reduceSub, Int.le_refl]
                    exact hA
                  | some s =>
                    rw [hst] at d3 hA
                    obtain ⟨s1, s2, s3⟩ := d3
                    have sn : ¬ ((s.2.1 : Nat) : Int) = -1 := fun z => by have := Int.natCast_nonneg s.2.1; omega
                    subst s1 s2
                    by_cases k1 : k = -1
                    · subst k1
                      simp only [k_MO_takesBack_1, e_MO_takesBack_2, k_MO_takesBack_2, e_MO_seated_10, k_MO_seated_10, e_MO_seated_13, k_MO_seated_13, rr, sh, Nat.reduceLT, Nat.reduceMul, Int.reduceToNat, Int.reduceGT, Int.reduceGE, Int.reduceNe, true_and, and_true, true_or, or_true, false_or, or_false, and_self, or_self, if_true, if_false, reduceIte, not_true_eq_false, not_false_eq_true, Int.reduceEq, Int.reduceNe, Int.reduceLT, Int.reduceLE, Int.reduceAdd, Int.reduceSub, Int.reduceMul, Int.reduceNeg, Nat.reduceAdd, Nat.reduceLeDiff, Nat.reduceEqDiff, ne_eq, List.length_cons, List.length_nil, Nat.reduceSub, Int.le_refl, sn]
                      exact hA
                    · by_cases k2 : k = 20
                      · subst k2
                        simp only [k_MO_takesBack_1, e_MO_takesBack_2, k_MO_takesBack_2, e_MO_seated_10, k_MO_seated_10, e_MO_seated_11, k_MO_seated_11, e_MO_seated_13, k_MO_seated_13, rr, sh, Nat.reduceLT, Nat.reduceMul, Int.reduceToNat, Int.reduceGT, Int.reduceGE, Int.reduceNe, true_and, and_true, true_or, or_true, false_or, or_false, and_self, or_self, if_true, if_false, reduceIte, not_true_eq_false, not_false_eq_true, Int.reduceEq, Int.reduceNe, Int.reduceLT, Int.reduceLE, Int.reduceAdd, Int.reduceSub, Int.reduceMul, Int.reduceNeg, Nat.reduceAdd, Nat.reduceLeDiff, Nat.reduceEqDiff, ne_eq, List.length_cons, List.length_nil, Nat.reduceSub, Int.le_refl, sn]
                        exact hA
                      · have k3 := hkk.resolve_left k1 |>.resolve_left k2
                        obtain ⟨q, rfl⟩ := Int.eq_ofNat_of_zero_le k3.1
                        have hq : q < nS V := Int.ofNat_lt.mp k3.2
                        have jq : 0 ≤ (q : Int) ∧ (q : Int) < 5 := ⟨Int.natCast_nonneg _, Int.ofNat_lt.mpr (Nat.lt_of_lt_of_le hq hn5)⟩
                        have e114 := s3 q hq
                        unfold seatA at hA
                        simp only [if_neg k1, if_neg k2, Int.toNat_natCast] at hA
                        simp only [k_MO_takesBack_1, e_MO_takesBack_2, k_MO_takesBack_2, e_MO_seated_10, k_MO_seated_10, e_MO_seated_11, k_MO_seated_11, e_MO_seated_12, k_MO_seated_12, e_MO_seated_13, k_MO_seated_13, rr, sh, Nat.reduceLT, Nat.reduceMul, Int.reduceToNat, Int.reduceGT, Int.reduceGE, Int.reduceNe, true_and, and_true, true_or, or_true, false_or, or_false, and_self, or_self, if_true, if_false, reduceIte, not_true_eq_false, not_false_eq_true, Int.reduceEq, Int.reduceNe, Int.reduceLT, Int.reduceLE, Int.reduceAdd, Int.reduceSub, Int.reduceMul, Int.reduceNeg, Nat.reduceAdd, Nat.reduceLeDiff, Nat.reduceEqDiff, ne_eq, List.length_cons, List.length_nil, Nat.reduceSub, Int.le_refl, sn, k1, k2, (f d1).2.2.2.2, jq, e114]
                        exact hA
                · intro i hi ih H3 d1 d2 d3 d4 d5
                  have c1 : ¬ (12 : Int) ≤ i := Int.not_le.mpr (Int.ofNat_lt.mpr hi)
                  have ji : 0 ≤ (i : Int) ∧ (i : Int) < 12 := ⟨Int.natCast_nonneg _, Int.ofNat_lt.mpr hi⟩
                  have ki := w32_s (n := i) (Nat.lt_trans hi (by decide))
                  have e1 := d2 i hi
                  rw [e_MO_takesBack_1]
                  simp only [k_MO_takesBack_1, rr, sh, Nat.reduceLT, Nat.reduceMul, Int.reduceToNat, Int.reduceGT, Int.reduceGE, Int.reduceNe, true_and, and_true, true_or, or_true, false_or, or_false, and_self, or_self, if_true, if_false, reduceIte, not_true_eq_false, not_false_eq_true, Int.reduceEq, Int.reduceNe, Int.reduceLT, Int.reduceLE, Int.reduceAdd, Int.reduceSub, Int.reduceMul, Int.reduceNeg, Nat.reduceAdd, Nat.reduceLeDiff, Nat.reduceEqDiff, ne_eq, List.length_cons, List.length_nil, Nat.reduceSub, c1, (f d1).2.2.1, (f d1).2.2.2.1, ji, e1, ki]
                  refine ih _ (fun a b' q1 q2 => ?_) (fun j hj => (hs_ne' (by decide)).trans (d2 j hj)) (d3.fr (hs_ne (by decide))) (fun j hj => ?_) (fun j hj => ?_)
                  · rw [hs_app]
                    by_cases z : a = 107 ∧ b' = i
                    · rw [if_pos z, z.1, z.2]
                    · rw [if_neg z]; exact d1 a b' q1 q2
                  · rw [hs_at]
                    by_cases e : j = i
                    · subst e; rw [if_pos rfl]
                    · rw [if_neg (fun z => e (Int.ofNat_inj.mp z))]; exact d4 j (Nat.lt_of_le_of_ne (Nat.le_of_lt_succ hj) e)
                  · rw [hs_at, if_neg (fun z => hj (by rw [z]; exact ji))]; exact d5 j hj
              · intro m hm ih H2 b x y a1 a2 a3
                have c1 : ¬ ((nS V ^ nS V : Nat) : Int) ≤ m := Int.not_le.mpr (Int.ofNat_lt.mpr hm)
                have km := w32_s (n := m) (Nat.lt_trans (Nat.lt_of_lt_of_le hm hall) (by decide))
                rw [stN_s] at ih
                rw [e_MO_seated_5]
                simp only [k_MO_seated_5, rr, sh, Nat.reduceLT, Nat.reduceMul, Int.reduceToNat, Int.reduceGT, Int.reduceGE, Int.reduceNe, true_and, and_true, true_or, or_true, false_or, or_false, and_self, or_self, if_true, if_false, reduceIte, not_true_eq_false, not_false_eq_true, Int.reduceEq, Int.reduceNe, Int.reduceLT, Int.reduceLE, Int.reduceAdd, Int.reduceSub, Int.reduceMul, Int.reduceNeg, Nat.reduceAdd, Nat.reduceLeDiff, Nat.reduceEqDiff, ne_eq, List.length_cons, List.length_nil, Nat.reduceSub, c1]
                refine c_sitBy (d := d + 4) hM hnr hn5 hm a1 (fun hp H3 b1 b2 => ?_) (fun hp H3 b1 b2 => ?_)
                · have hd : dupB (nS V) m = true := (dupB_iff _ _).mpr hp
                  have hleaf : ∀ st, leafS V m st = updS V m st := fun st => by unfold leafS; rw [if_pos hd]
                  rw [hleaf] at ih
                  simp only [rr, sh, Nat.reduceLT, Nat.reduceMul, Int.reduceToNat, Int.reduceGT, Int.reduceGE, Int.reduceNe, true_and, and_true, true_or, or_true, false_or, or_false, and_self, or_self, if_true, if_false, reduceIte, not_true_eq_false, not_false_eq_true, Int.reduceEq, Int.reduceNe, Int.reduceLT, Int.reduceLE, Int.reduceAdd, Int.reduceSub, Int.reduceMul, Int.reduceNeg, Nat.reduceAdd, Nat.reduceLeDiff, Nat.reduceEqDiff, ne_eq, List.length_cons, List.length_nil, Nat.reduceSub]
                  refine c_isNearestF (d := d + 1) (stV_inm hM hnr) b1 fun H4 e1 e2 => ?_
                  rw [nbV_stV hnr] at e2 ⊢
                  have hV4 : Vw (stV V m) H4 := b1.fx e1 s596_scr
                  have hW4 := Wv.of hV4
                  have a4 : ∀ j : Nat, j < 12 → H4 113 j = V 107 j := fun j hj => by
                    rw [e1 113 j rfl, b2 113 j rfl]; exact a2 j hj
                  have a5 : SMr V H4 b x (stN (leafS V) none m) := a3.fr (((e1.cell 114 (fun _ => rfl))).trans (b2.cell 114 (fun _ => rfl)))
                  cases hv : ordV V m with
                  | none =>
                    rw [updS_none hv] at ih
                    simp only [e_MO_seated_8, k_MO_seated_8, rr, sh, Nat.reduceLT, Nat.reduceMul, Int.reduceToNat, Int.reduceGT, Int.reduceGE, Int.reduceNe, true_and, and_true, true_or, or_true, false_or, or_false, and_self, or_self, if_true, if_false, reduceIte, not_true_eq_false, not_false_eq_true, Int.reduceEq, Int.reduceNe, Int.reduceLT, Int.reduceLE, Int.reduceAdd, Int.reduceSub, Int.reduceMul, Int.reduceNeg, Nat.reduceAdd, Nat.reduceLeDiff, Nat.reduceEqDiff, ne_eq, List.length_cons, List.length_nil, Nat.reduceSub, Option.isSome_none, Bool.false_eq_true, km]
                    exact ih H4 b x y hW4 a4 a5
                  | some q =>
                    rw [hv] at e2
                    obtain ⟨z59, z60⟩ := e2
                    rw [updS_pick hv] at ih
                    have fin : pickS m q (stN (leafS V) none m) = some (m, q.1, q.2) → ∀ y : AV, R (d + 6) MO_seated (blk MO_seated 7) [va 71, vi k, vi (nS V), vi ((nS V ^ nS V : Nat) : Int), vi q.1, vl q.2, vu, vi m, vi 0] [] H4 Q := fun he y => by
                      rw [he] at ih
                      refine up_nat (P := fun i => ∀ H', Wv V H' → H' 107 = H4 107 → (∀ j : Nat, j < 12 → H' 113 j = V 107 j) → (∀ j : Nat, j < i → H' 114 j = dgt (nS V) (nS V) m j) → R (d + 6) MO_seated (blk MO_seated 7) [va 71, vi k, vi (nS V), vi ((nS V ^ nS V : Nat) : Int), vi q.1, vl q.2, vu, vi m, vi i] [] H' Q) ?_ ?_ 0 (Nat.zero_le (nS V)) H4 hW4 rfl a4 (fun j hj => absurd hj (Nat.not_lt_zero j))
                      · intro H5 g1 g2 g3 g4
                        rw [e_MO_seated_7]
                        simp only [k_MO_seated_7, e_MO_seated_8, k_MO_seated_8, rr, sh, Nat.reduceLT, Nat.reduceMul, Int.reduceToNat, Int.reduceGT, Int.reduceGE, Int.reduceNe, true_and, and_true, true_or, or_true, false_or, or_false, and_self, or_self, if_true, if_false, reduceIte, not_true_eq_false, not_false_eq_true, Int.reduceEq, Int.reduceNe, Int.reduceLT, Int.reduceLE, Int.reduceAdd, Int.reduceSub, Int.reduceMul, Int.reduceNeg, Nat.reduceAdd, Nat.reduceLeDiff, Nat.reduceEqDiff, ne_eq, List.length_cons, List.length_nil, Nat.reduceSub, Int.le_refl, km]
                        exact ih H5 _ _ _ g1 g3 ⟨rfl, rfl, g4⟩
                      · intro i hi ihi H5 g1 g2 g3 g4
                        have c3 : ¬ (nS V : Int) ≤ i := Int.not_le.mpr (Int.ofNat_lt.mpr hi)
                        have i5 : i < 5 := Nat.lt_of_lt_of_le hi hn5
                        have ji : 0 ≤ (i : Int) ∧ (i : Int) < 12 := ⟨Int.natCast_nonneg _, Int.ofNat_lt.mpr (Nat.lt_trans i5 (by decide))⟩
                        have ji5 : 0 ≤ (i : Int) ∧ (i : Int) < 5 := ⟨Int.natCast_nonneg _, Int.ofNat_lt.mpr i5⟩
                        have ki := w32_s (n := i) (Nat.lt_trans i5 (by decide))
                        have e107 : H5 107 i = dgt (nS V) (nS V) m i := by rw [g2, hV4 107 i rfl, stV_at hi]
                        rw [e_MO_seated_7]
                        simp only [k_MO_seated_7, rr, sh, Nat.reduceLT, Nat.reduceMul, Int.reduceToNat, Int.reduceGT, Int.reduceGE, Int.reduceNe, true_and, and_true, true_or, or_true, false_or, or_false, and_self, or_self, if_true, if_false, reduceIte, not_true_eq_false, not_false_eq_true, Int.reduceEq, Int.reduceNe, Int.reduceLT, Int.reduceLE, Int.reduceAdd, Int.reduceSub, Int.reduceMul, Int.reduceNeg, Nat.reduceAdd, Nat.reduceLeDiff, Nat.reduceEqDiff, ne_eq, List.length_cons, List.length_nil, Nat.reduceSub, c3, (f g1).2.2.1, (f g1).2.2.2.2, ji, ji5, e107, ki]
                        refine ihi _ (g1.hs (Or.inl rfl)) ((hs_ne (by decide)).trans g2) (fun j hj => (hs_ne' (by decide)).trans (g3 j hj)) fun j hj => ?_
                        rw [hs_at]
                        by_cases e : j = i
                        · subst e; rw [if_pos rfl]
                        · rw [if_neg (fun z => e (Int.ofNat_inj.mp z))]; exact g4 j (Nat.lt_of_le_of_ne (Nat.le_of_lt_succ hj) e)
                    cases hst : stN (leafS V) none m with
                    | none =>
                      rw [hst] at a5 fin
                      have a5 : b = -1 := a5
                      subst a5
                      simp only [e_MO_seated_6, k_MO_seated_6, rr, sh, Nat.reduceLT, Nat.reduceMul, Int.reduceToNat, Int.reduceGT, Int.reduceGE, Int.reduceNe, true_and, and_true, true_or, or_true, false_or, or_false, and_self, or_self, if_true, if_false, reduceIte, not_true_eq_false, not_false_eq_true, Int.reduceEq, Int.reduceNe, Int.reduceLT, Int.reduceLE, Int.reduceAdd, Int.reduceSub, Int.reduceMul, Int.reduceNeg, Nat.reduceAdd, Nat.reduceLeDiff, Nat.reduceEqDiff, ne_eq, List.length_cons, List.length_nil, Nat.reduceSub, Option.isSome_some, z59, z60]
                      exact fin rfl y
                    | some s =>
                      rw [hst] at a5 fin ih
                      have a6 := a5
                      obtain ⟨s1, s2, s3⟩ := a5
                      have sn : ¬ ((s.2.1 : Nat) : Int) = -1 := fun z => by have := Int.natCast_nonneg s.2.1; omega
                      subst s1 s2
                      by_cases hlt : q.2 < s.2.2
                      · simp only [e_MO_seated_6, k_MO_seated_6, rr, sh, Nat.reduceLT, Nat.reduceMul, Int.reduceToNat, Int.reduceGT, Int.reduceGE, Int.reduceNe, true_and, and_true, true_or, or_true, false_or, or_false, and_self, or_self, if_true, if_false, reduceIte, not_true_eq_false, not_false_eq_true, Int.reduceEq, Int.reduceNe, Int.reduceLT, Int.reduceLE, Int.reduceAdd, Int.reduceSub, Int.reduceMul, Int.reduceNeg, Nat.reduceAdd, Nat.reduceLeDiff, Nat.reduceEqDiff, ne_eq, List.length_cons, List.length_nil, Nat.reduceSub, Option.isSome_some, z59, z60, sn, c3_lt, hlt]
                        exact fin (if_pos hlt) y
                      · have hpk : pickS m q (some s) = some s := if_neg hlt
                        rw [hpk] at ih
                        simp only [e_MO_seated_8, k_MO_seated_8, rr, sh, Nat.reduceLT, Nat.reduceMul, Int.reduceToNat, Int.reduceGT, Int.reduceGE, Int.reduceNe, true_and, and_true, true_or, or_true, false_or, or_false, and_self, or_self, if_true, if_false, reduceIte, not_true_eq_false, not_false_eq_true, Int.reduceEq, Int.reduceNe, Int.reduceLT, Int.reduceLE, Int.reduceAdd, Int.reduceSub, Int.reduceMul, Int.reduceNeg, Nat.reduceAdd, Nat.reduceLeDiff, Nat.reduceEqDiff, ne_eq, List.length_cons, List.length_nil, Nat.reduceSub, Option.isSome_some, z60, sn, c3_lt, hlt, km]
                        exact ih H4 _ _ y hW4 a4 a6
                · have hd : ¬ dupB (nS V) m = true := fun z => hp ((dupB_iff _ _).mp z)
                  have hleaf : ∀ st, leafS V m st = st := fun st => by unfold leafS; rw [if_neg hd]
                  rw [hleaf] at ih
                  simp only [e_MO_seated_8, k_MO_seated_8, rr, sh, Nat.reduceLT, Nat.reduceMul, Int.reduceToNat, Int.reduceGT, Int.reduceGE, Int.reduceNe, true_and, and_true, true_or, or_true, false_or, or_false, and_self, or_self, if_true, if_false, reduceIte, not_true_eq_false, not_false_eq_true, Int.reduceEq, Int.reduceNe, Int.reduceLT, Int.reduceLE, Int.reduceAdd, Int.reduceSub, Int.reduceMul, Int.reduceNeg, Nat.reduceAdd, Nat.reduceLeDiff, Nat.reduceEqDiff, ne_eq, List.length_cons, List.length_nil, Nat.reduceSub, km]
                  exact ih H3 b x y (Wv.of b1) (fun j hj => by rw [b2 113 j rfl]; exact a2 j hj) (a3.fr (b2.cell 114 (fun _ => rfl)))
            · intro i hi ih H1 g1 g2
              have c1 : ¬ (12 : Int) ≤ i := Int.not_le.mpr (Int.ofNat_lt.mpr hi)
              have ji : 0 ≤ (i : Int) ∧ (i : Int) < 12 := ⟨Int.natCast_nonneg _, Int.ofNat_lt.mpr hi⟩
              have ki := w32_s (n := i) (Nat.lt_trans hi (by decide))
              have hW1 : Wv V H1 := fun a b q _ => g1 a b q
              have e1 : H1 107 i = V 107 i := g1 107 i rfl
              rw [e_MO_putsAside_1]
              simp only [k_MO_putsAside_1, rr, sh, Nat.reduceLT, Nat.reduceMul, Int.reduceToNat, Int.reduceGT, Int.reduceGE, Int.reduceNe, true_and, and_true, true_or, or_true, false_or, or_false, and_self, or_self, if_true, if_false, reduceIte, not_true_eq_false, not_false_eq_true, Int.reduceEq, Int.reduceNe, Int.reduceLT, Int.reduceLE, Int.reduceAdd, Int.reduceSub, Int.reduceMul, Int.reduceNeg, Nat.reduceAdd, Nat.reduceLeDiff, Nat.reduceEqDiff, ne_eq, List.length_cons, List.length_nil, Nat.reduceSub, c1, (f hW1).2.2.1, (f hW1).2.2.2.1, ji, e1, ki]
              refine ih _ (g1.hs (c := 113) rfl) fun j hj => ?_
              rw [hs_at]
              by_cases e : j = i
              · subst e; rw [if_pos rfl]
              · rw [if_neg (fun z => e (Int.ofNat_inj.mp z))]; exact g2 j (Nat.lt_of_le_of_ne (Nat.le_of_lt_succ hj) e)
          · intro i hi ih
            have c1 : ¬ (nS V : Int) ≤ i := Int.not_le.mpr (Int.ofNat_lt.mpr hi)
            have ki := w32_s (n := i) (Nat.lt_trans (Nat.lt_of_lt_of_le hi hn5) (by decide))
            have wm : w32 (((nS V ^ i : Nat) : Int) * (nS V : Int)) = ((nS V ^ (i + 1) : Nat) : Int) := by
              rw [← Int.natCast_mul, ← Nat.pow_succ]
              exact w32_nat (Nat.lt_of_le_of_lt (pow_le5 hn5 (Nat.le_trans hi hn5)) (by decide))
            rw [e_MO_seated_3]
            simp only [k_MO_seated_3, rr, sh, Nat.reduceLT, Nat.reduceMul, Int.reduceToNat, Int.reduceGT, Int.reduceGE, Int.reduceNe, true_and, and_true, true_or, or_true, false_or, or_false, and_self, or_self, if_true, if_false, reduceIte, not_true_eq_false, not_false_eq_true, Int.reduceEq, Int.reduceNe, Int.reduceLT, Int.reduceLE, Int.reduceAdd, Int.reduceSub, Int.reduceMul, Int.reduceNeg, Nat.reduceAdd, Nat.reduceLeDiff, Nat.reduceEqDiff, ne_eq, List.length_cons, List.length_nil, Nat.reduceSub, c1, wm, ki]
            exact ih
        by_cases hin : -1 ≤ k ∧ k ≤ (nS V : Int) - 1
        · simp only [en_MO_seated, e_MO_seated_0, k_MO_seated_0, en_MO_seats, e_MO_seats_0, k_MO_seats_0, en_MO_rowers, e_MO_rowers_0, k_MO_rowers_0, rr, sh, Nat.reduceLT, Nat.reduceMul, Int.reduceToNat, Int.reduceGT, Int.reduceGE, Int.reduceNe, true_and, and_true, true_or, or_true, false_or, or_false, and_self, or_self, if_true, if_false, reduceIte, not_true_eq_false, not_false_eq_true, Int.reduceEq, Int.reduceNe, Int.reduceLT, Int.reduceLE, Int.reduceAdd, Int.reduceSub, Int.reduceMul, Int.reduceNeg, Nat.reduceAdd, Nat.reduceLeDiff, Nat.reduceEqDiff, ne_eq, List.length_cons, List.length_nil, Nat.reduceSub, (f hW).1, (f hW).2.1, hS.1, hR.1, ce, c5, q_isIn, wn, hin]
          exact go
        · have k20 : k = 20 := by clear hQ go wn; omega
          subst k20
          have hin' : ¬ (20 : Int) ≤ (nS V : Int) - 1 := fun z => hin ⟨by decide, z⟩
          simp only [en_MO_seated, e_MO_seated_0, k_MO_seated_0, en_MO_seats, e_MO_seats_0, k_MO_seats_0, en_MO_rowers, e_MO_rowers_0, k_MO_rowers_0, rr, sh, Nat.reduceLT, Nat.reduceMul, Int.reduceToNat, Int.reduceGT, Int.reduceGE, Int.reduceNe, true_and, and_true, true_or, or_true, false_or, or_false, and_self, or_self, if_true, if_false, reduceIte, not_true_eq_false, not_false_eq_true, Int.reduceEq, Int.reduceNe, Int.reduceLT, Int.reduceLE, Int.reduceAdd, Int.reduceSub, Int.reduceMul, Int.reduceNeg, Nat.reduceAdd, Nat.reduceLeDiff, Nat.reduceEqDiff, ne_eq, List.length_cons, List.length_nil, Nat.reduceSub, (f hW).1, (f hW).2.1, hS.1, hR.1, ce, c5, q_isIn, wn, hin']
          exact go
      · have hin : ¬ (-1 ≤ k ∧ k ≤ (nS V : Int) - 1) := fun z => hkk (by clear hQ wn; omega)
        have k20 : ¬ k = 20 := fun z => hkk (Or.inr (Or.inl z))
        have := hQ H hH
        unfold seatedS at this
        rw [if_neg (fun z => hkk z.2)] at this
        simp only [en_MO_seated, e_MO_seated_0, k_MO_seated_0, e_MO_seated_1, k_MO_seated_1, en_MO_seats, e_MO_seats_0, k_MO_seats_0, en_MO_rowers, e_MO_rowers_0, k_MO_rowers_0, rr, sh, Nat.reduceLT, Nat.reduceMul, Int.reduceToNat, Int.reduceGT, Int.reduceGE, Int.reduceNe, true_and, and_true, true_or, or_true, false_or, or_false, and_self, or_self, if_true, if_false, reduceIte, not_true_eq_false, not_false_eq_true, Int.reduceEq, Int.reduceNe, Int.reduceLT, Int.reduceLE, Int.reduceAdd, Int.reduceSub, Int.reduceMul, Int.reduceNeg, Nat.reduceAdd, Nat.reduceLeDiff, Nat.reduceEqDiff, ne_eq, List.length_cons, List.length_nil, Nat.reduceSub, (f hW).1, (f hW).2.1, hS.1, hR.1, ce, c5, q_isIn, wn, hin, k20]
        exact this
    · have c5 : 5 < (nS V : Int) := Int.ofNat_lt.mpr (Nat.not_le.mp hn5)
      have := hQ H hH
      unfold seatedS at this
      rw [if_neg (fun z => hn5 z.1.2)] at this
      simp only [en_MO_seated, e_MO_seated_0, k_MO_seated_0, e_MO_seated_1, k_MO_seated_1, en_MO_seats, e_MO_seats_0, k_MO_seats_0, en_MO_rowers, e_MO_rowers_0, k_MO_rowers_0, rr, sh, Nat.reduceLT, Nat.reduceMul, Int.reduceToNat, Int.reduceGT, Int.reduceGE, Int.reduceNe, true_and, and_true, true_or, or_true, false_or, or_false, and_self, or_self, if_true, if_false, reduceIte, not_true_eq_false, not_false_eq_true, Int.reduceEq, Int.reduceNe, Int.reduceLT, Int.reduceLE, Int.reduceAdd, Int.reduceSub, Int.reduceMul, Int.reduceNeg, Nat.reduceAdd, Nat.reduceLeDiff, Nat.reduceEqDiff, ne_eq, List.length_cons, List.length_nil, Nat.reduceSub, (f hW).1, (f hW).2.1, hS.1, hR.1, ce, c5]
      exact this
  · have ce : ¬ (nS V : Int) = nR V := fun z => hnr (Int.ofNat_inj.mp z)
    have := hQ H hH
    unfold seatedS at this
    rw [if_neg (fun z => hnr z.1.1)] at this
    simp only [en_MO_seated, e_MO_seated_0, k_MO_seated_0, e_MO_seated_1, k_MO_seated_1, en_MO_seats, e_MO_seats_0, k_MO_seats_0, en_MO_rowers, e_MO_rowers_0, k_MO_rowers_0, rr, sh, Nat.reduceLT, Nat.reduceMul, Int.reduceToNat, Int.reduceGT, Int.reduceGE, Int.reduceNe, true_and, and_true, true_or, or_true, false_or, or_false, and_self, or_self, if_true, if_false, reduceIte, not_true_eq_false, not_false_eq_true, Int.reduceEq, Int.reduceNe, Int.reduceLT, Int.reduceLE, Int.reduceAdd, Int.reduceSub, Int.reduceMul, Int.reduceNeg, Nat.reduceAdd, Nat.reduceLeDiff, Nat.reduceEqDiff, ne_eq, List.length_cons, List.length_nil, Nat.reduceSub, (f hW).1, (f hW).2.1, hS.1, hR.1, ce]
    exact this
end SZ
theorem p_seated {d : Nat} {V : Hp} (h : Inv0 V) {k : Int} : Pair V (d + 20) EO_seated MO_seated [va 1, vi k] [va 71, vi k] := pair_of h (fun _ hQ => c_seatedC h.q hQ) (fun _ _ hH hQ => c_seatedM (d := d + 14) h.m hH hQ)
