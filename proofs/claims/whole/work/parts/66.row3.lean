/-! row: the reference -/
theorem hs2 {X : Hp} {c j v a b : Int} (h : ¬ (a = c ∧ b = j)) : hs X c j v a b = X a b := by rw [hs_app, if_neg h]
section RM
variable {d : Nat} {W H : Hp} {Q : AV → Hp → Prop}
theorem inm_478 (h : Inm W) (hS : Fx s478 W H) (h1 : 0 ≤ H 71 47 ∧ H 71 47 ≤ 9999) (h2 : 0 ≤ H 71 57 ∧ H 71 57 < 2147483648) (h3 : -9223372036854775808 ≤ H 71 48 ∧ H 71 48 < 9223372036854775808) : Inm H := by
  have hs : ptL.all (fun q => !s478 q.1 q.2.1) = true := by decide +kernel
  have e91 : H 91 = W 91 := hS.cell 91 (fun _ => rfl)
  have e107 : H 107 = W 107 := hS.cell 107 (fun _ => rfl)
  have eS : nS H = nS W := by unfold nS nN; rw [e91]
  have eR : nR H = nR W := by unfold nR nN; rw [e91]
  have eD : sdV H = sdV W := by unfold sdV; rw [hS 71 49 rfl]
  refine ⟨fun q hq => ?_, h.boat.cg (fun a i1 i2 => hS.cell a (fun b => ?_)) (hS 71 46 rfl), h1, ?_, ?_, ?_, h2, h3⟩
  · have := List.all_eq_true.mp hs q hq
    rw [hS q.1 q.2.1 (by simpa using this)]
    exact h.1 q hq
  · unfold s478; rw [if_neg (by omega)]
  · rw [hS 71 49 rfl, eS, eD]; exact h.crew.sides
  · rw [e107, eR, eS]; exact h.crew.sits
  · rw [e107, eS, hS.cell 96 (fun _ => rfl), hS.cell 97 (fun _ => rfl)]; exact h.crew.off
set_option maxRecDepth 20000 in
theorem c_rows (hM : Inm W) {t s g : Int} (h47 : W 71 47 + 1 = t) (ht : t ≤ 9999) (h57 : W 71 57 = s) (h48 : W 71 48 = g) (hQ : ∀ H', Fx s478 W H' → H' 71 47 = t → H' 71 57 = rsd W s (nS W) → H' 71 48 = w64 (g + rsm W t s (nS W)) → Q vu H') : CC (d + 2) MO_rows [va 71] W Q := by
  have hst := hM.crew.stroke
  have hsd := hM.crew.seed
  have hhd := hM.crew.2.2.2.2.2
  have hn := hM.boat.s
  have t0 : 0 ≤ t := by omega
  have w0 : w32 (W 71 47 + 1) = t := by rw [h47]; exact w32_id (by omega) (by omega)
  rw [h57] at hsd
  have hg0 : w64 g = g := by rw [h48] at hhd; exact w64_id hhd.1 hhd.2
  simp only [en_MO_rows, e_MO_rows_0, k_MO_rows_0, rr, sh, Nat.reduceLT, Nat.reduceMul, Int.reduceToNat, Int.reduceGT, Int.reduceGE, Int.reduceNe, true_and, and_true, true_or, or_true, false_or, or_false, and_self, or_self, if_true, if_false, reduceIte, not_true_eq_false, not_false_eq_true, Int.reduceEq, Int.reduceNe, Int.reduceLT, Int.reduceLE, Int.reduceAdd, Int.reduceSub, Int.reduceMul, Int.reduceNeg, Nat.reduceAdd, Nat.reduceLeDiff, Nat.reduceEqDiff, ne_eq, List.length_cons, List.length_nil, Nat.reduceSub, w0]
  refine up_nat (P := fun k => ∀ x y z H', Fx s478 W H' → H' 71 47 = t → H' 71 57 = rsd W s k → H' 71 48 = w64 (g + rsm W t s k) → R (d + 2) MO_rows (blk MO_rows 1) [va 71, vi k, x, y, z] [] H' Q) ?_ ?_ 0 (Nat.zero_le (nS W)) _ _ _ _ (Fx.rf.hs (c := 71) (j := 47) rfl) hs_same ?_ ?_
  · intro x y z H' a1 a2 a3 a4
    have p29 : H' 71 29 = 91 := (a1 71 29 rfl).trans (hM.ptr (71, 29, 91) (by decide +kernel))
    have c91 : H' 91 = W 91 := a1.cell 91 (fun _ => rfl)
    rw [e_MO_rows_1]
    simp only [k_MO_rows_1, e_MO_rows_8, k_MO_rows_8, en_MO_seats, e_MO_seats_0, k_MO_seats_0, rr, sh, Nat.reduceLT, Nat.reduceMul, Int.reduceToNat, Int.reduceGT, Int.reduceGE, Int.reduceNe, true_and, and_true, true_or, or_true, false_or, or_false, and_self, or_self, if_true, if_false, reduceIte, not_true_eq_false, not_false_eq_true, Int.reduceEq, Int.reduceNe, Int.reduceLT, Int.reduceLE, Int.reduceAdd, Int.reduceSub, Int.reduceMul, Int.reduceNeg, Nat.reduceAdd, Nat.reduceLeDiff, Nat.reduceEqDiff, ne_eq, List.length_cons, List.length_nil, Nat.reduceSub, p29, c91, hn.1, Int.le_refl]
    exact hQ _ a1 a2 a3 a4
  · intro k hk ih
    have c1 : ¬ (nS W : Int) ≤ k := by clear ih hQ w0 hg0; omega
    have j1 : 0 ≤ (k : Int) ∧ (k : Int) < 12 := by clear ih hQ w0 hg0; omega
    have j2 : 0 ≤ 12 + (k : Int) ∧ 12 + (k : Int) < 24 := by clear ih hQ w0 hg0; omega
    have kw := w32_s (n := k) (by clear ih hQ w0 hg0; omega)
    have w8 : w32 (12 + (k : Int)) = 12 + k := w32_id (by clear ih hQ w0 hg0 kw; omega) (by clear ih hQ w0 hg0 kw; omega)
    have k32 : k < 32 := by clear ih hQ w0 hg0 kw w8; omega
    have k12 : k < 12 := by clear ih hQ w0 hg0 kw w8; omega
    intro x y z H' a1 a2 a3 a4
    have p29 : H' 71 29 = 91 := (a1 71 29 rfl).trans (hM.ptr (71, 29, 91) (by decide +kernel))
    have p50 : H' 71 50 = 107 := (a1 71 50 rfl).trans (hM.ptr (71, 50, 107) (by decide +kernel))
    have p31 : ∀ v, hs H' 71 57 v 71 31 = 93 := fun v => (hs2 (by decide)).trans ((a1 71 31 rfl).trans (hM.ptr (71, 31, 93) (by decide +kernel)))
    have p30 : ∀ v, hs H' 71 57 v 71 30 = 92 := fun v => (hs2 (by decide)).trans ((a1 71 30 rfl).trans (hM.ptr (71, 30, 92) (by decide +kernel)))
    have c91 : H' 91 = W 91 := a1.cell 91 (fun _ => rfl)
    have c107 : H' 107 = W 107 := a1.cell 107 (fun _ => rfl)
    have c93 : ∀ v, hs H' 71 57 v 93 = W 93 := fun v => (hs_ne (by decide)).trans (a1.cell 93 (fun _ => rfl))
    have c92 : ∀ v, hs H' 71 57 v 92 = W 92 := fun v => (hs_ne (by decide)).trans (a1.cell 92 (fun _ => rfl))
    have e48 : ∀ v, hs H' 71 57 v 71 48 = w64 (g + rsm W t s k) := fun v => (hs2 (by decide)).trans a4
    have e49 : ∀ v, hs H' 71 57 v 71 49 = sdV W := fun v => (hs2 (by decide)).trans ((a1 71 49 rfl).trans hM.crew.sides.1)
    rw [e_MO_rows_1]
    by_cases h : W 107 k = -1
    · simp only [k_MO_rows_1, e_MO_rows_2, k_MO_rows_2, e_MO_rows_3, k_MO_rows_3, e_MO_rows_4, k_MO_rows_4, e_MO_rows_5, k_MO_rows_5, e_MO_rows_6, k_MO_rows_6, e_MO_rows_7, k_MO_rows_7, en_MO_seats, e_MO_seats_0, k_MO_seats_0, rr, sh, Nat.reduceLT, Nat.reduceMul, Int.reduceToNat, Int.reduceGT, Int.reduceGE, Int.reduceNe, true_and, and_true, true_or, or_true, false_or, or_false, and_self, or_self, if_true, if_false, reduceIte, not_true_eq_false, not_false_eq_true, Int.reduceEq, Int.reduceNe, Int.reduceLT, Int.reduceLE, Int.reduceAdd, Int.reduceSub, Int.reduceMul, Int.reduceNeg, Nat.reduceAdd, Nat.reduceLeDiff, Nat.reduceEqDiff, ne_eq, List.length_cons, List.length_nil, Nat.reduceSub, p29, p50, c91, c107, hn.1, c1, j1, h, kw]
      have r1 : rsm W t s (k + 1) = rsm W t s k := by show (if W 107 k = -1 then _ else _) = _; rw [if_pos h]
      have r2 : rsd W s (k + 1) = rsd W s k := by show (if W 107 k = -1 then _ else _) = _; rw [if_pos h]
      exact ih x y z H' a1 a2 (by rw [r2]; exact a3) (by rw [r1]; exact a4)
    · have hr := rsd_rng hsd (V := W) k
      have hd := drw_rng (rsd W s k)
      have hp := rpl_rng hM hk h t0 hd.1
      have hs1 := hM.crew.sits k hk
      have hwho : 0 ≤ W 107 k ∧ W 107 k < nR W := by clear hp hd hr a1 a2 a3 a4 p29 p50 p31 p30 c91 c107 c93 c92 e48 e49 ih hQ w0 hg0 kw w8; omega
      have hI2 : Inm H' := inm_478 hM a1 (by rw [a2]; exact ⟨t0, ht⟩) (by rw [a3]; exact hr) (by rw [a4]; exact w64_rng _)
      have eR : nR H' = nR W := by unfold nR nN; rw [c91]
      have eT : stg H' (W 107 k) t = stg W (W 107 k) t := by unfold stg; rw [a1.cell 96 (fun _ => rfl), a1.cell 97 (fun _ => rfl)]
      have ks : ∀ {Q : AV → Hp → Prop}, CC (d + 1) MO_strengthAt [va 71, vi (W 107 k), vi t] H' Q = Q (vi (stg W (W 107 k) t)) H' := fun {Q} => by
        rw [q_strengthAtM hI2 Vw.rf (by rw [eR]; exact hwho) t0 (Int.le_trans ht (by decide)), eT]
      have r1 : rsm W t s (k + 1) = rsm W t s k + sgn ((sdV W).testBit k) (rpl W t (drw (rsd W s k)) k) := by show (if W 107 k = -1 then _ else _) = _; rw [if_neg h]
      have r2 : rsd W s (k + 1) = drw (rsd W s k) := by show (if W 107 k = -1 then _ else _) = _; rw [if_neg h]
      have hsd12 := sdV_lt hM
      have bb := b_bit (a := sdV W) (k := k) (Nat.lt_trans hsd12 (by decide)) k32
      have b1 := hM.boat.place k hk
      have b2 := hM.boat.arm k hk
      have hl : lvr W 1 k = W 93 (12 + k) * W 92 (12 + k) := by unfold lvr; rw [show W 92 (12 + (k : Int)) ^ 1 = W 92 (12 + k) by grind]
      obtain ⟨v0, hv0⟩ : ∃ v0, v0 = stg W (W 107 k) t + d3 (drw (rsd W s k)) - 1 := ⟨_, rfl⟩
      have hv1 : stg W (W 107 k) t + d3 (drw (rsd W s k)) = v0 + 1 := by rw [hv0]; exact (Int.sub_add_cancel _ _).symm
      have hvr : -1 ≤ v0 ∧ v0 ≤ 101 := by rw [hv0]; exact hp.2.2
      have w1 : w32 (w32 (v0 + 1) - 1) = v0 := by
        rw [w32_id (x := v0 + 1) (by clear hv0 hv1; omega) (by clear hv0 hv1; omega), Int.add_sub_cancel]
        exact w32_id (by clear hv0 hv1; omega) (by clear hv0 hv1; omega)
      have hm : ∀ v : Int, 0 ≤ v → v ≤ 101 → w64 (w64 (v * W 93 (12 + k)) * W 92 (12 + k)) = v * (W 93 (12 + k) * W 92 (12 + k)) ∧ w64 (-(v * (W 93 (12 + k) * W 92 (12 + k)))) = -(v * (W 93 (12 + k) * W 92 (12 + k))) := by
        intro v v1 v2
        have m1 : 0 ≤ v * W 93 (12 + k) ∧ v * W 93 (12 + k) ≤ 101 * 99 := ⟨Int.mul_nonneg v1 (Int.le_trans (by decide) b2.1), Int.mul_le_mul v2 b2.2 (Int.le_trans (by decide) b2.1) (by decide)⟩
        have m2 : 0 ≤ v * W 93 (12 + k) * W 92 (12 + k) ∧ v * W 93 (12 + k) * W 92 (12 + k) ≤ 101 * 99 * 99 := ⟨Int.mul_nonneg m1.1 (Int.le_trans (by decide) b1.1), Int.mul_le_mul m1.2 b1.2 (Int.le_trans (by decide) b1.1) (by decide)⟩
        have m3 : v * (W 93 (12 + k) * W 92 (12 + k)) = v * W 93 (12 + k) * W 92 (12 + k) := (Int.mul_assoc _ _ _).symm
        have m4 : w64 (v * W 93 (12 + k) * W 92 (12 + k)) = v * W 93 (12 + k) * W 92 (12 + k) := w64_id (Int.le_trans (by decide) m2.1) (Int.lt_of_le_of_lt m2.2 (by decide))
        rw [m3, w64_ml]
        refine ⟨m4, w64_id ?_ ?_⟩
        · have := m2.2; clear hv0 hv1 m4 w1; omega
        · have := m2.1; clear hv0 hv1 m4 w1; omega
      have hx : rpl W t (drw (rsd W s k)) k = max 0 v0 * (W 93 (12 + k) * W 92 (12 + k)) := by unfold rpl; rw [← hv0, hl]
      have fin : ∀ v1 : Int, v1 = max 0 v0 → ∀ x' z' : AV, R (d + 2) MO_rows (blk MO_rows 1) [va 71, vi ((k + 1 : Nat) : Int), x', z', vu] [] (hs (hs H' 71 57 (drw (rsd W s k))) 71 48 (w64 (w64 (g + rsm W t s k) + (if (sdV W).testBit k = true then v1 * (W 93 (12 + k) * W 92 (12 + k)) else -(v1 * (W 93 (12 + k) * W 92 (12 + k))))))) Q := by
        intro v1 hv x' z'
        refine ih _ _ _ _ ((a1.hs (c := 71) (j := 57) rfl).hs (c := 71) (j := 48) rfl) ?_ ?_ ?_
        · rw [hs2 (by decide), hs2 (by decide)]; exact a2
        · rw [hs2 (by decide), r2]; exact hs_same
        · rw [hs_same, r1, hx, w64_al, ← hv, Int.add_assoc]; rfl
      clear hx r1 r2 hl b1 b2 hv0 hp hd hr ih
      by_cases c0 : v0 < 0
      · have h0 := hm 0 (Int.le_refl 0) (by decide)
        have hf := fin 0 (by clear w1 hv1 fin hm h0; omega)
        have c0' : ¬ 0 ≤ v0 := by clear w1 hv1 fin hm h0 hf; omega
        cases hb : (sdV W).testBit k
        · rw [hb] at hf bb
          simp only [if_false, Bool.false_eq_true] at hf bb
          simp only [k_MO_rows_1, e_MO_rows_2, k_MO_rows_2, e_MO_rows_3, k_MO_rows_3, e_MO_rows_4, k_MO_rows_4, e_MO_rows_5, k_MO_rows_5, e_MO_rows_6, k_MO_rows_6, e_MO_rows_7, k_MO_rows_7, en_MO_seats, e_MO_seats_0, k_MO_seats_0, rr, sh, Nat.reduceLT, Nat.reduceMul, Int.reduceToNat, Int.reduceGT, Int.reduceGE, Int.reduceNe, true_and, and_true, true_or, or_true, false_or, or_false, and_self, or_self, if_true, if_false, reduceIte, not_true_eq_false, not_false_eq_true, Int.reduceEq, Int.reduceNe, Int.reduceLT, Int.reduceLE, Int.reduceAdd, Int.reduceSub, Int.reduceMul, Int.reduceNeg, Nat.reduceAdd, Nat.reduceLeDiff, Nat.reduceEqDiff, ne_eq, List.length_cons, List.length_nil, Nat.reduceSub, p29, p50, c91, c107, hn.1, c1, j1, h, kw, a2, ks, q_drawM a3 (rsd_rng hsd k), hv1, w1, c0', p31, p30, c93, c92, e48, e49, w8, j2, h0, bb]
          exact hf _ _
        · rw [hb] at hf bb
          simp only [if_true] at hf bb
          simp only [k_MO_rows_1, e_MO_rows_2, k_MO_rows_2, e_MO_rows_3, k_MO_rows_3, e_MO_rows_4, k_MO_rows_4, e_MO_rows_5, k_MO_rows_5, e_MO_rows_6, k_MO_rows_6, e_MO_rows_7, k_MO_rows_7, en_MO_seats, e_MO_seats_0, k_MO_seats_0, rr, sh, Nat.reduceLT, Nat.reduceMul, Int.reduceToNat, Int.reduceGT, Int.reduceGE, Int.reduceNe, true_and, and_true, true_or, or_true, false_or, or_false, and_self, or_self, if_true, if_false, reduceIte, not_true_eq_false, not_false_eq_true, Int.reduceEq, Int.reduceNe, Int.reduceLT, Int.reduceLE, Int.reduceAdd, Int.reduceSub, Int.reduceMul, Int.reduceNeg, Nat.reduceAdd, Nat.reduceLeDiff, Nat.reduceEqDiff, ne_eq, List.length_cons, List.length_nil, Nat.reduceSub, p29, p50, c91, c107, hn.1, c1, j1, h, kw, a2, ks, q_drawM a3 (rsd_rng hsd k), hv1, w1, c0', p31, p30, c93, c92, e48, e49, w8, j2, h0, bb]
          exact hf _ _
      · have c0' : 0 ≤ v0 := by clear w1 hv1 fin hm; omega
        have h0 := hm v0 c0' hvr.2
        have hf := fin v0 (by clear w1 hv1 fin hm h0; omega)
        cases hb : (sdV W).testBit k
        · rw [hb] at hf bb
          simp only [if_false, Bool.false_eq_true] at hf bb
          simp only [k_MO_rows_1, e_MO_rows_2, k_MO_rows_2, e_MO_rows_3, k_MO_rows_3, e_MO_rows_4, k_MO_rows_4, e_MO_rows_5, k_MO_rows_5, e_MO_rows_6, k_MO_rows_6, e_MO_rows_7, k_MO_rows_7, en_MO_seats, e_MO_seats_0, k_MO_seats_0, rr, sh, Nat.reduceLT, Nat.reduceMul, Int.reduceToNat, Int.reduceGT, Int.reduceGE, Int.reduceNe, true_and, and_true, true_or, or_true, false_or, or_false, and_self, or_self, if_true, if_false, reduceIte, not_true_eq_false, not_false_eq_true, Int.reduceEq, Int.reduceNe, Int.reduceLT, Int.reduceLE, Int.reduceAdd, Int.reduceSub, Int.reduceMul, Int.reduceNeg, Nat.reduceAdd, Nat.reduceLeDiff, Nat.reduceEqDiff, ne_eq, List.length_cons, List.length_nil, Nat.reduceSub, p29, p50, c91, c107, hn.1, c1, j1, h, kw, a2, ks, q_drawM a3 (rsd_rng hsd k), hv1, w1, c0', p31, p30, c93, c92, e48, e49, w8, j2, h0, bb]
          exact hf _ _
        · rw [hb] at hf bb
          simp only [if_true] at hf bb
          simp only [k_MO_rows_1, e_MO_rows_2, k_MO_rows_2, e_MO_rows_3, k_MO_rows_3, e_MO_rows_4, k_MO_rows_4, e_MO_rows_5, k_MO_rows_5, e_MO_rows_6, k_MO_rows_6, e_MO_rows_7, k_MO_rows_7, en_MO_seats, e_MO_seats_0, k_MO_seats_0, rr, sh, Nat.reduceLT, Nat.reduceMul, Int.reduceToNat, Int.reduceGT, Int.reduceGE, Int.reduceNe, true_and, and_true, true_or, or_true, false_or, or_false, and_self, or_self, if_true, if_false, reduceIte, not_true_eq_false, not_false_eq_true, Int.reduceEq, Int.reduceNe, Int.reduceLT, Int.reduceLE, Int.reduceAdd, Int.reduceSub, Int.reduceMul, Int.reduceNeg, Nat.reduceAdd, Nat.reduceLeDiff, Nat.reduceEqDiff, ne_eq, List.length_cons, List.length_nil, Nat.reduceSub, p29, p50, c91, c107, hn.1, c1, j1, h, kw, a2, ks, q_drawM a3 (rsd_rng hsd k), hv1, w1, c0', p31, p30, c93, c92, e48, e49, w8, j2, h0, bb]
          exact hf _ _
  · rw [hs2 (by decide)]; exact h57
  · rw [hs2 (by decide), h48]
    show g = w64 (g + 0)
    rw [Int.add_zero, hg0]
end RM
