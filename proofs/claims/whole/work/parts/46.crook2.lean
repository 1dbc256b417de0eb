/-! crooked: both answers -/
section CK
variable {d : Nat} {V H : Hp} {Q : AV → Hp → Prop}
theorem crk_off {V : Hp} {k : Nat} (hk : mnV V ≤ k) (h : ¬ unfO V (tsV V) (taV V) = none) : crkB V k = false := by
  refine crk_none (fun i _ => ?_)
  rw [unfO_cg (a' := taV V) (fun j hj => by unfold updA; rw [if_neg (by omega)])]
  exact h
theorem crkN_up {V : Hp} {m : Nat} (h : ¬ unfO V (tsV V) (taV V) = none) : ∀ n, mnV V ≤ m → m ≤ n → crkN V n = crkN V m := by
  intro n h1 h2
  induction h2 with
  | refl => rfl
  | step hle ih =>
    rename_i q
    show (if crkB V q = true then crkN V q ||| 1 * 2 ^ q else crkN V q) = _
    rw [crk_off (Nat.le_trans h1 hle) h, if_neg (by decide), ih]
theorem crkN_or {V : Hp} {k : Nat} (hk : k < 12) : b_or (crkN V k : Nat) (b_shl 1 k) = ((crkN V k ||| 1 * 2 ^ k : Nat) : Int) := by
  have h2 : 2 ^ k ≤ 2 ^ 11 := Nat.pow_le_pow_right (by decide) (by omega)
  have h3 := crkN_lt V k
  have e := b_shl_nat (a := 1) (k := k) (by omega) (by omega)
  rw [show ((1 : Nat) : Int) = 1 from rfl] at e
  rw [e, b_or_nat (by omega) (by omega)]
set_option maxRecDepth 20000 in
theorem c_crookedC (hI : Inq V) (hH : Vw V H) (hQ : ∀ H', Vw V H' → Q (vi (crookS V)) H') : CC (d + 6) EO_crooked [va 1] H Q := by
  have hu := hI.boat.u
  have hn := hI.boat.s
  have h1 := hI.plan.runs
  have hmn : mnV V ≤ nS V ∧ mnV V ≤ 12 := by unfold mnV; omega
  have z1 := shp hI
  have hq : ∀ H', Vw V H' → ¬ unfO V (tsV V) (taV V) = none → Q (vi ((crkN V (mnV V) : Nat) : Int)) H' := fun H' hH h => by
    have := hQ H' hH
    unfold crookS at this
    rw [if_neg h, crkN_up h (nS V) (Nat.le_refl _) hmn.1] at this
    exact this
  have f := hH.f hI.ptr; have g := pl_f hH hI.pp hI.ptr; simp only [en_EO_crooked, e_EO_crooked_0, k_EO_crooked_0, en_TR_crookedSeats, e_TR_crookedSeats_0, k_TR_crookedSeats_0, e_TR_crookedSeats_1, k_TR_crookedSeats_1, rr, sh, Nat.reduceLT, Nat.reduceMul, Int.reduceToNat, Int.reduceGT, Int.reduceGE, Int.reduceNe, true_and, and_true, true_or, or_true, false_or, or_false, and_self, or_self, if_true, if_false, reduceIte, not_true_eq_false, not_false_eq_true, Int.reduceEq, Int.reduceNe, Int.reduceLT, Int.reduceLE, Int.reduceAdd, Int.reduceSub, Int.reduceMul, Int.reduceNeg, Nat.reduceAdd, Nat.reduceLeDiff, Nat.reduceEqDiff, ne_eq, List.length_cons, List.length_nil, Nat.reduceSub, ite10_0, ite10_1, ite10_01, Classical.not_not, f, g, z1, q_firstUnfitC hI hH] <;> clear f g
  cases hun : unfO V (tsV V) (taV V) with
  | none =>
    have := hQ H hH
    unfold crookS at this
    rw [if_pos hun] at this
    rw [if_neg (fun q => q rfl)]
    exact this
  | some b =>
    have hne : ¬ unfO V (tsV V) (taV V) = none := by rw [hun]; intro h; cases h
    have hb : ¬ optI (some b) = -1 := by show ¬ (b : Int) = -1; omega
    rw [if_pos hb]
    clear hb hun
    refine up_nat (P := fun r => ∀ H', Vw V H' → (∀ i : Nat, i < r → H' 59 i = fitG V (tsV V) (taV V) i) → R (d + 5) TR_crookedSeats (blk TR_crookedSeats 2) [va 58, va (V 4 0), vi r, vu] [] H' (fun r H1 => R (d + 5 + 1) EO_crooked [x_ri] [va 1] [r] H1 Q)) ?_ ?_ 0 (Nat.zero_le (nU V)) H hH (fun i hi => absurd hi (Nat.not_lt_zero i))
    · intro H1 hH a1
      rw [e_TR_crookedSeats_2]
      have f := hH.f hI.ptr; have g := pl_f hH hI.pp hI.ptr; simp only [k_TR_crookedSeats_2, e_TR_crookedSeats_3, k_TR_crookedSeats_3, rr, sh, Nat.reduceLT, Nat.reduceMul, Int.reduceToNat, Int.reduceGT, Int.reduceGE, Int.reduceNe, true_and, and_true, true_or, or_true, false_or, or_false, and_self, or_self, if_true, if_false, reduceIte, not_true_eq_false, not_false_eq_true, Int.reduceEq, Int.reduceNe, Int.reduceLT, Int.reduceLE, Int.reduceAdd, Int.reduceSub, Int.reduceMul, Int.reduceNeg, Nat.reduceAdd, Nat.reduceLeDiff, Nat.reduceEqDiff, ne_eq, List.length_cons, List.length_nil, Nat.reduceSub, ite10_0, ite10_1, ite10_01, Classical.not_not, f, g, z1, h1, Int.le_refl] <;> clear f g
      refine up_nat (P := fun k => ∀ H', Vw V H' → gapHK V H' → R (d + 5) TR_crookedSeats (blk TR_crookedSeats 4) [va 58, va (V 4 0), vi ((crkN V k : Nat) : Int), vi k] [] H' (fun r H1 => R (d + 5 + 1) EO_crooked [x_ri] [va 1] [r] H1 Q)) ?_ ?_ 0 (Nat.zero_le (mnV V)) H1 hH a1
      · intro H2 hH a2
        rw [e_TR_crookedSeats_4]
        have f := hH.f hI.ptr; have g := pl_f hH hI.pp hI.ptr; simp only [k_TR_crookedSeats_4, e_TR_crookedSeats_6, k_TR_crookedSeats_6, rr, sh, Nat.reduceLT, Nat.reduceMul, Int.reduceToNat, Int.reduceGT, Int.reduceGE, Int.reduceNe, true_and, and_true, true_or, or_true, false_or, or_false, and_self, or_self, if_true, if_false, reduceIte, not_true_eq_false, not_false_eq_true, Int.reduceEq, Int.reduceNe, Int.reduceLT, Int.reduceLE, Int.reduceAdd, Int.reduceSub, Int.reduceMul, Int.reduceNeg, Nat.reduceAdd, Nat.reduceLeDiff, Nat.reduceEqDiff, ne_eq, List.length_cons, List.length_nil, Nat.reduceSub, ite10_0, ite10_1, ite10_01, Classical.not_not, f, g, z1, q_seatedFirst hI hH, Int.le_refl] <;> clear f g
        exact hq H2 hH hne
      · intro k hk ih H2 hH a2
        obtain ⟨c1, c2, -⟩ := nxt hk (Nat.le_trans hmn.2 (by decide))
        have hk12 : k < 12 := Nat.lt_of_lt_of_le hk hmn.2
        have w1 := crkN_or (V := V) hk12
        have eg : crkN V (k + 1) = if crkB V k = true then crkN V k ||| 1 * 2 ^ k else crkN V k := rfl
        rw [e_TR_crookedSeats_4]
        have f := hH.f hI.ptr; have g := pl_f hH hI.pp hI.ptr; simp only [k_TR_crookedSeats_4, rr, sh, Nat.reduceLT, Nat.reduceMul, Int.reduceToNat, Int.reduceGT, Int.reduceGE, Int.reduceNe, true_and, and_true, true_or, or_true, false_or, or_false, and_self, or_self, if_true, if_false, reduceIte, not_true_eq_false, not_false_eq_true, Int.reduceEq, Int.reduceNe, Int.reduceLT, Int.reduceLE, Int.reduceAdd, Int.reduceSub, Int.reduceMul, Int.reduceNeg, Nat.reduceAdd, Nat.reduceLeDiff, Nat.reduceEqDiff, ne_eq, List.length_cons, List.length_nil, Nat.reduceSub, ite10_0, ite10_1, ite10_01, Classical.not_not, f, g, z1, q_seatedFirst hI hH, c1] <;> clear f g
        refine c_canBe hI hH hk a2 fun H3 hH3 a3 => ?_
        have ih := ih H3 hH3 a3
        by_cases hb : crkB V k = true
        · rw [if_pos hb] at eg ⊢
          rw [eg] at ih
          have kw := crkN_or (V := V) hk12
          simp only [e_TR_crookedSeats_5, k_TR_crookedSeats_5, rr, sh, Nat.reduceLT, Nat.reduceMul, Int.reduceToNat, Int.reduceGT, Int.reduceGE, Int.reduceNe, true_and, and_true, true_or, or_true, false_or, or_false, and_self, or_self, if_true, if_false, reduceIte, not_true_eq_false, not_false_eq_true, Int.reduceEq, Int.reduceNe, Int.reduceLT, Int.reduceLE, Int.reduceAdd, Int.reduceSub, Int.reduceMul, Int.reduceNeg, Nat.reduceAdd, Nat.reduceLeDiff, Nat.reduceEqDiff, ne_eq, List.length_cons, List.length_nil, Nat.reduceSub, ite10_0, ite10_1, ite10_01, Classical.not_not, kw, c2]
          exact ih
        · rw [if_neg hb] at eg ⊢
          rw [eg] at ih
          simp only [e_TR_crookedSeats_5, k_TR_crookedSeats_5, rr, sh, Nat.reduceLT, Nat.reduceMul, Int.reduceToNat, Int.reduceGT, Int.reduceGE, Int.reduceNe, true_and, and_true, true_or, or_true, false_or, or_false, and_self, or_self, if_true, if_false, reduceIte, not_true_eq_false, not_false_eq_true, Int.reduceEq, Int.reduceNe, Int.reduceLT, Int.reduceLE, Int.reduceAdd, Int.reduceSub, Int.reduceMul, Int.reduceNeg, Nat.reduceAdd, Nat.reduceLeDiff, Nat.reduceEqDiff, ne_eq, List.length_cons, List.length_nil, Nat.reduceSub, ite10_0, ite10_1, ite10_01, Classical.not_not, c2]
          exact ih
    · intro r hr ih H1 hH a1
      obtain ⟨c1, c2, -⟩ := nxt hr (Nat.le_trans hu.2 (by decide))
      have j1 := le8 (Nat.lt_of_lt_of_le hr hu.2)
      rw [e_TR_crookedSeats_2]
      have f := hH.f hI.ptr; have g := pl_f hH hI.pp hI.ptr; simp only [k_TR_crookedSeats_2, rr, sh, Nat.reduceLT, Nat.reduceMul, Int.reduceToNat, Int.reduceGT, Int.reduceGE, Int.reduceNe, true_and, and_true, true_or, or_true, false_or, or_false, and_self, or_self, if_true, if_false, reduceIte, not_true_eq_false, not_false_eq_true, Int.reduceEq, Int.reduceNe, Int.reduceLT, Int.reduceLE, Int.reduceAdd, Int.reduceSub, Int.reduceMul, Int.reduceNeg, Nat.reduceAdd, Nat.reduceLeDiff, Nat.reduceEqDiff, ne_eq, List.length_cons, List.length_nil, Nat.reduceSub, ite10_0, ite10_1, ite10_01, Classical.not_not, f, g, z1, h1, c1, c2, j1, q_gapAsTold hI hH hr] <;> clear f g
      refine ih _ (hH.hs (c := 59) (j := (r : Int)) rfl) (fun i hi => ?_)
      rw [hs_app]
      by_cases h : i = r
      · rw [if_pos ⟨rfl, congrArg _ h⟩, h]
      · rw [if_neg (fun q => h (Int.ofNat_inj.mp q.2))]; exact a1 i (Nat.lt_of_le_of_ne (Nat.le_of_lt_succ hi) h)
/-- tried arms that are as told but for seat k -/
def Tr1 (V H : Hp) (k : Nat) : Prop := (∀ j : Nat, j < nR V → H 115 j = tsV V j) ∧ ∀ j : Nat, j < nS V → j ≠ k → H 116 j = taV V j
theorem Tr1.tri {x : Int} {k : Nat} (hM : Inm V) (h : Tr1 V H k) (hx : 1 ≤ x ∧ x ≤ 99) : Tri V (hs H 116 k x) (tsV V) (updA V k x) := by
  refine ⟨fun j hj => ⟨by rw [hs_ne (by decide)]; exact h.1 j hj, hM.boat.str j hj⟩, fun j hj => ?_⟩
  rw [hs_app]
  unfold updA
  by_cases e : j = k
  · rw [if_pos ⟨rfl, congrArg _ e⟩, if_pos e]; exact ⟨rfl, hx⟩
  · rw [if_neg (fun q => e (Int.ofNat_inj.mp q.2)), if_neg e]; exact ⟨h.2 j hj e, hM.boat.arm j hj⟩
theorem Tr1.set {x : Int} {k : Nat} (h : Tr1 V H k) : Tr1 V (hs H 116 k x) k := ⟨fun j hj => by rw [hs_ne (by decide)]; exact h.1 j hj, fun j hj e => by rw [hs_app, if_neg (fun q => e (Int.ofNat_inj.mp q.2))]; exact h.2 j hj e⟩
theorem crk_bit {V : Hp} {k : Nat} (hk : k < 12) : b_and (b_shr (crkN V k : Nat) k) 1 = 0 ∧ b_and (b_shr ((crkN V k ||| 1 * 2 ^ k : Nat) : Int) k) 1 = 1 := by
  have h2 : 2 ^ k ≤ 2 ^ 11 := Nat.pow_le_pow_right (by decide) (by omega)
  have h3 := crkN_lt V k
  have h4 : crkN V k ||| 1 * 2 ^ k < 2 ^ (k + 1) := Nat.or_lt_two_pow (Nat.lt_trans h3 (Nat.pow_lt_pow_right (by decide) (Nat.lt_succ_self k))) (by rw [Nat.one_mul]; exact Nat.pow_lt_pow_right (by decide) (Nat.lt_succ_self k))
  have h5 : 2 ^ (k + 1) ≤ 2 ^ 12 := Nat.pow_le_pow_right (by decide) (by omega)
  constructor
  · rw [b_bit (by omega) (by omega), if_neg (by rw [Nat.testBit_lt_two_pow h3]; decide)]
  · rw [b_bit (by omega) (by omega), if_pos]
    rw [Nat.testBit_or, Nat.one_mul, Nat.testBit_two_pow]
    simp
theorem ge100 {i : Nat} (h : i < 99) : (¬ (100 : Int) ≤ ((i + 1 : Nat) : Int)) ∧ w32 (((i + 1 : Nat) : Int) + 1) = ((i + 1 + 1 : Nat) : Int) ∧ (1 : Int) ≤ ((i + 1 : Nat) : Int) ∧ ((i + 1 : Nat) : Int) ≤ 99 ∧ ((i + 1 : Nat) : Int) = (i : Int) + 1 := ⟨by omega, w32_s (by omega), by omega, by omega, by omega⟩
theorem ix12 {k : Nat} (h : k < 12) : w32 (12 + (k : Int)) = 12 + k ∧ (0 ≤ 12 + (k : Int) ∧ 12 + (k : Int) < 24) := ⟨w32_id (by omega) (by omega), by omega⟩
set_option maxRecDepth 20000 in
theorem c_crookedM (hM : Inm V) (hH : Vw V H) (hQ : ∀ H', Vw V H' → Q (vi (crookS V)) H') : CC (d + 3) MO_crooked [va 71] H Q := by
  have hn := hM.boat.s
  have f := hH.f hM.ptr; simp only [en_MO_crooked, e_MO_crooked_0, k_MO_crooked_0, rr, sh, Nat.reduceLT, Nat.reduceMul, Int.reduceToNat, Int.reduceGT, Int.reduceGE, Int.reduceNe, true_and, and_true, true_or, or_true, false_or, or_false, and_self, or_self, if_true, if_false, reduceIte, not_true_eq_false, not_false_eq_true, Int.reduceEq, Int.reduceNe, Int.reduceLT, Int.reduceLE, Int.reduceAdd, Int.reduceSub, Int.reduceMul, Int.reduceNeg, Nat.reduceAdd, Nat.reduceLeDiff, Nat.reduceEqDiff, ne_eq, List.length_cons, List.length_nil, Nat.reduceSub, ite10_0, ite10_1, ite10_01, Classical.not_not, f] <;> clear f
  refine c_triesTold hM hH fun H1 hH hT => ?_
  have f := hH.f hM.ptr; simp only [en_MO_crooked, e_MO_crooked_0, k_MO_crooked_0, e_MO_crooked_1, k_MO_crooked_1, rr, sh, Nat.reduceLT, Nat.reduceMul, Int.reduceToNat, Int.reduceGT, Int.reduceGE, Int.reduceNe, true_and, and_true, true_or, or_true, false_or, or_false, and_self, or_self, if_true, if_false, reduceIte, not_true_eq_false, not_false_eq_true, Int.reduceEq, Int.reduceNe, Int.reduceLT, Int.reduceLE, Int.reduceAdd, Int.reduceSub, Int.reduceMul, Int.reduceNeg, Nat.reduceAdd, Nat.reduceLeDiff, Nat.reduceEqDiff, ne_eq, List.length_cons, List.length_nil, Nat.reduceSub, ite10_0, ite10_1, ite10_01, Classical.not_not, f, q_firstUnfitM hM hH hT] <;> clear f
  cases hun : unfO V (tsV V) (taV V) with
  | none =>
    have := hQ H1 hH
    unfold crookS at this
    rw [if_pos hun] at this
    rw [if_neg (fun q => q rfl)]
    exact this
  | some b =>
    have hq : ∀ H', Vw V H' → Q (vi ((crkN V (nS V) : Nat) : Int)) H' := fun H' hH => by
      have := hQ H' hH
      unfold crookS at this
      rw [if_neg (by rw [hun]; intro h; cases h)] at this
      exact this
    have hb : ¬ optI (some b) = -1 := by show ¬ (b : Int) = -1; omega
    rw [if_pos hb]
    clear hb hun hQ
    refine up_nat (P := fun k => ∀ z H', Vw V H' → (∀ j : Nat, j < nR V → H' 115 j = tsV V j) → (∀ j : Nat, j < nS V → H' 116 j = taV V j) → R (d + 3) MO_crooked (blk MO_crooked 2) [va 71, vi ((crkN V k : Nat) : Int), vi k, z] [] H' Q) ?_ ?_ 0 (Nat.zero_le (nS V)) vu H1 hH (fun j hj => (hT.1 j hj).1) (fun j hj => (hT.2 j hj).1)
    · intro z H2 hH _ _
      rw [e_MO_crooked_2]
      have f := hH.f hM.ptr; simp only [k_MO_crooked_2, e_MO_crooked_6, k_MO_crooked_6, en_MO_seats, e_MO_seats_0, k_MO_seats_0, rr, sh, Nat.reduceLT, Nat.reduceMul, Int.reduceToNat, Int.reduceGT, Int.reduceGE, Int.reduceNe, true_and, and_true, true_or, or_true, false_or, or_false, and_self, or_self, if_true, if_false, reduceIte, not_true_eq_false, not_false_eq_true, Int.reduceEq, Int.reduceNe, Int.reduceLT, Int.reduceLE, Int.reduceAdd, Int.reduceSub, Int.reduceMul, Int.reduceNeg, Nat.reduceAdd, Nat.reduceLeDiff, Nat.reduceEqDiff, ne_eq, List.length_cons, List.length_nil, Nat.reduceSub, ite10_0, ite10_1, ite10_01, Classical.not_not, f, hn.1, Int.le_refl] <;> clear f
      exact hq H2 hH
    · intro k hk ih z H2 hH a1 a2
      obtain ⟨c1, c2, -⟩ := nxt hk (Nat.le_trans hn.2 (by decide))
      have hk12 : k < 12 := Nat.lt_of_lt_of_le hk hn.2
      obtain ⟨b1, b2⟩ := crk_bit (V := V) hk12
      have kor := crkN_or (V := V) hk12
      obtain ⟨x1, x2⟩ := ix12 hk12
      have j1 := le12 hk12
      have eg : crkN V (k + 1) = if crkB V k = true then crkN V k ||| 1 * 2 ^ k else crkN V k := rfl
      have fin : ∀ z H', Vw V H' → Tr1 V H' k → R (d + 3) MO_crooked (blk MO_crooked 5) [va 71, vi ((crkN V (k + 1) : Nat) : Int), vi k, z] [] H' Q := by
        intro z H3 hH hT1
        have := ih z _ (hH.hs (c := 116) (j := (k : Int)) (v := taV V k) rfl) (fun j hj => by rw [hs_ne (by decide)]; exact hT1.1 j hj) (fun j hj => by
          rw [hs_app]
          by_cases e : j = k
          · rw [if_pos ⟨rfl, congrArg _ e⟩, e]
          · rw [if_neg (fun q => e (Int.ofNat_inj.mp q.2))]; exact hT1.2 j hj e)
        have f := hH.f hM.ptr; simp only [e_MO_crooked_5, k_MO_crooked_5, rr, sh, Nat.reduceLT, Nat.reduceMul, Int.reduceToNat, Int.reduceGT, Int.reduceGE, Int.reduceNe, true_and, and_true, true_or, or_true, false_or, or_false, and_self, or_self, if_true, if_false, reduceIte, not_true_eq_false, not_false_eq_true, Int.reduceEq, Int.reduceNe, Int.reduceLT, Int.reduceLE, Int.reduceAdd, Int.reduceSub, Int.reduceMul, Int.reduceNeg, Nat.reduceAdd, Nat.reduceLeDiff, Nat.reduceEqDiff, ne_eq, List.length_cons, List.length_nil, Nat.reduceSub, ite10_0, ite10_1, ite10_01, Classical.not_not, f, x1, x2, j1, c2] <;> clear f
        exact this
      rw [e_MO_crooked_2]
      have f := hH.f hM.ptr; simp only [k_MO_crooked_2, en_MO_seats, e_MO_seats_0, k_MO_seats_0, rr, sh, Nat.reduceLT, Nat.reduceMul, Int.reduceToNat, Int.reduceGT, Int.reduceGE, Int.reduceNe, true_and, and_true, true_or, or_true, false_or, or_false, and_self, or_self, if_true, if_false, reduceIte, not_true_eq_false, not_false_eq_true, Int.reduceEq, Int.reduceNe, Int.reduceLT, Int.reduceLE, Int.reduceAdd, Int.reduceSub, Int.reduceMul, Int.reduceNeg, Nat.reduceAdd, Nat.reduceLeDiff, Nat.reduceEqDiff, ne_eq, List.length_cons, List.length_nil, Nat.reduceSub, ite10_0, ite10_1, ite10_01, Classical.not_not, f, hn.1, c1] <;> clear f
      refine up_nat (P := fun i => ∀ H', Vw V H' → Tr1 V H' k → (∀ j : Nat, j < i → ¬ unfO V (tsV V) (updA V k ((j : Int) + 1)) = none) → R (d + 3) MO_crooked (blk MO_crooked 3) [va 71, vi ((crkN V k : Nat) : Int), vi k, vi ((i + 1 : Nat) : Int)] [] H' Q) ?_ ?_ 0 (Nat.zero_le 99) H2 hH ⟨a1, fun j hj _ => a2 j hj⟩ (fun j hj => absurd hj (Nat.not_lt_zero j))
      · intro H3 hH hT1 hf
        have c3 : (100 : Int) ≤ ((99 + 1 : Nat) : Int) := by decide
        rw [crk_none hf, if_neg (by decide)] at eg
        rw [eg] at fin
        rw [e_MO_crooked_3]
        simp only [k_MO_crooked_3, rr, sh, Nat.reduceLT, Nat.reduceMul, Int.reduceToNat, Int.reduceGT, Int.reduceGE, Int.reduceNe, true_and, and_true, true_or, or_true, false_or, or_false, and_self, or_self, if_true, if_false, reduceIte, not_true_eq_false, not_false_eq_true, Int.reduceEq, Int.reduceNe, Int.reduceLT, Int.reduceLE, Int.reduceAdd, Int.reduceSub, Int.reduceMul, Int.reduceNeg, Nat.reduceAdd, Nat.reduceLeDiff, Nat.reduceEqDiff, ne_eq, List.length_cons, List.length_nil, Nat.reduceSub, ite10_0, ite10_1, ite10_01, Classical.not_not, c3]
        exact fin _ H3 hH hT1
      · intro i hi ih2 H3 hH hT1 hf
        obtain ⟨d1, d2, d3, d4, d5⟩ := ge100 hi
        have hT := hT1.tri hM (x := ((i + 1 : Nat) : Int)) ⟨d3, d4⟩
        have hH4 := hH.hs (c := 116) (j := (k : Int)) (v := ((i + 1 : Nat) : Int)) rfl
        rw [e_MO_crooked_3]
        have f := hH.f hM.ptr; simp only [k_MO_crooked_3, rr, sh, Nat.reduceLT, Nat.reduceMul, Int.reduceToNat, Int.reduceGT, Int.reduceGE, Int.reduceNe, true_and, and_true, true_or, or_true, false_or, or_false, and_self, or_self, if_true, if_false, reduceIte, not_true_eq_false, not_false_eq_true, Int.reduceEq, Int.reduceNe, Int.reduceLT, Int.reduceLE, Int.reduceAdd, Int.reduceSub, Int.reduceMul, Int.reduceNeg, Nat.reduceAdd, Nat.reduceLeDiff, Nat.reduceEqDiff, ne_eq, List.length_cons, List.length_nil, Nat.reduceSub, ite10_0, ite10_1, ite10_01, Classical.not_not, f, d1, b1, j1] <;> clear f
        have hqa := q_firstUnfitM (d := d) (Q := fun r H2 => R (d + 2 + 1) MO_crooked [x_icne 4, x_ldi 1, x_ic 1, x_ldi 2, x_ishl, x_ior, x_s1i 1, x_fall 4] [va 71, vi ((crkN V k : Nat) : Int), vi k, vi ((i + 1 : Nat) : Int)] [vi (-1), r] H2 Q) hM hH4 hT
        refine hqa.mpr ?_
        cases h : unfO V (tsV V) (updA V k ((i + 1 : Nat) : Int)) with
        | some b =>
          have hb : ¬ optI (some b) = -1 := by show ¬ (b : Int) = -1; omega
          have := ih2 _ hH4 hT1.set (fun j hj => by
            rcases Nat.lt_or_ge j i with g | g
            · exact hf j g
            · rw [show j = i from Nat.le_antisymm (Nat.le_of_lt_succ hj) g, ← d5, h]; intro q; cases q)
          simp only [e_MO_crooked_4, k_MO_crooked_4, rr, sh, Nat.reduceLT, Nat.reduceMul, Int.reduceToNat, Int.reduceGT, Int.reduceGE, Int.reduceNe, true_and, and_true, true_or, or_true, false_or, or_false, and_self, or_self, if_true, if_false, reduceIte, not_true_eq_false, not_false_eq_true, Int.reduceEq, Int.reduceNe, Int.reduceLT, Int.reduceLE, Int.reduceAdd, Int.reduceSub, Int.reduceMul, Int.reduceNeg, Nat.reduceAdd, Nat.reduceLeDiff, Nat.reduceEqDiff, ne_eq, List.length_cons, List.length_nil, Nat.reduceSub, ite10_0, ite10_1, ite10_01, Classical.not_not, hb, d2]
          exact this
        | none =>
          have hb : optI none = -1 := rfl
          have hc := crk_some hi (by rw [← d5]; exact h)
          rw [hc, if_pos rfl] at eg
          rw [eg] at fin
          have ff := fin (vi ((i + 1 + 1 : Nat) : Int)) _ hH4 hT1.set
          have z9 : ¬ ((1 : Int) = 0) := by decide
          by_cases h99 : i + 1 < 99
          · obtain ⟨g1, g2, -⟩ := ge100 h99
            simp only [e_MO_crooked_4, k_MO_crooked_4, rr, sh, Nat.reduceLT, Nat.reduceMul, Int.reduceToNat, Int.reduceGT, Int.reduceGE, Int.reduceNe, true_and, and_true, true_or, or_true, false_or, or_false, and_self, or_self, if_true, if_false, reduceIte, not_true_eq_false, not_false_eq_true, Int.reduceEq, Int.reduceNe, Int.reduceLT, Int.reduceLE, Int.reduceAdd, Int.reduceSub, Int.reduceMul, Int.reduceNeg, Nat.reduceAdd, Nat.reduceLeDiff, Nat.reduceEqDiff, ne_eq, List.length_cons, List.length_nil, Nat.reduceSub, ite10_0, ite10_1, ite10_01, Classical.not_not, hb, kor, d2]
            rw [e_MO_crooked_3]
            simp only [k_MO_crooked_3, rr, sh, Nat.reduceLT, Nat.reduceMul, Int.reduceToNat, Int.reduceGT, Int.reduceGE, Int.reduceNe, true_and, and_true, true_or, or_true, false_or, or_false, and_self, or_self, if_true, if_false, reduceIte, not_true_eq_false, not_false_eq_true, Int.reduceEq, Int.reduceNe, Int.reduceLT, Int.reduceLE, Int.reduceAdd, Int.reduceSub, Int.reduceMul, Int.reduceNeg, Nat.reduceAdd, Nat.reduceLeDiff, Nat.reduceEqDiff, ne_eq, List.length_cons, List.length_nil, Nat.reduceSub, ite10_0, ite10_1, ite10_01, Classical.not_not, g1, b2, z9]
            exact ff
          · have g1 : (100 : Int) ≤ ((i + 1 + 1 : Nat) : Int) := by clear eg hc hb ff fin kor; omega
            simp only [e_MO_crooked_4, k_MO_crooked_4, rr, sh, Nat.reduceLT, Nat.reduceMul, Int.reduceToNat, Int.reduceGT, Int.reduceGE, Int.reduceNe, true_and, and_true, true_or, or_true, false_or, or_false, and_self, or_self, if_true, if_false, reduceIte, not_true_eq_false, not_false_eq_true, Int.reduceEq, Int.reduceNe, Int.reduceLT, Int.reduceLE, Int.reduceAdd, Int.reduceSub, Int.reduceMul, Int.reduceNeg, Nat.reduceAdd, Nat.reduceLeDiff, Nat.reduceEqDiff, ne_eq, List.length_cons, List.length_nil, Nat.reduceSub, ite10_0, ite10_1, ite10_01, Classical.not_not, hb, kor, d2]
            rw [e_MO_crooked_3]
            simp only [k_MO_crooked_3, rr, sh, Nat.reduceLT, Nat.reduceMul, Int.reduceToNat, Int.reduceGT, Int.reduceGE, Int.reduceNe, true_and, and_true, true_or, or_true, false_or, or_false, and_self, or_self, if_true, if_false, reduceIte, not_true_eq_false, not_false_eq_true, Int.reduceEq, Int.reduceNe, Int.reduceLT, Int.reduceLE, Int.reduceAdd, Int.reduceSub, Int.reduceMul, Int.reduceNeg, Nat.reduceAdd, Nat.reduceLeDiff, Nat.reduceEqDiff, ne_eq, List.length_cons, List.length_nil, Nat.reduceSub, ite10_0, ite10_1, ite10_01, Classical.not_not, g1]
            exact ff
end CK
