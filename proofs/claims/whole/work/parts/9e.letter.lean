/-! letter -/
def letS (V : Hp) (r k : Int) : Int := if (0 ≤ r ∧ r < nR V) ∧ 0 ≤ k ∧ k < 6 then V (V 4 0 + 4) (6 * r + k) else -1
theorem nmV_pos {L : Nat → Int} : ∀ {n : Nat}, 1 ≤ n → (∀ q, q < n → 1 ≤ L q ∧ L q ≤ 26) → 1 ≤ nmV L n
  | 0, h, _ => absurd h (by decide)
  | n + 1, _, h => by
    show 1 ≤ 27 * nmV L n + L n
    have hn := h n (Nat.lt_succ_self n)
    rcases Nat.eq_zero_or_pos n with z | z
    · subst z
      show 1 ≤ 27 * 0 + L 0
      omega
    · have := nmV_pos (L := L) z (fun q hq => h q (Nat.lt_succ_of_lt hq))
      omega
theorem nmV_nn {L : Nat → Int} {n : Nat} (h : ∀ q, q < n → 1 ≤ L q ∧ L q ≤ 26) : 0 ≤ nmV L n := by
  rcases Nat.eq_zero_or_pos n with z | z
  · subst z; exact Int.le_refl _
  · have := nmV_pos z h; omega
theorem nmV_lt {L : Nat → Int} : ∀ {n : Nat}, (∀ q, q < n → 1 ≤ L q ∧ L q ≤ 26) → nmV L n < ((27 ^ n : Nat) : Int)
  | 0, _ => by show (0 : Int) < ((27 ^ 0 : Nat) : Int); decide
  | n + 1, h => by
    have ih := nmV_lt (L := L) (n := n) (fun q hq => h q (Nat.lt_succ_of_lt hq))
    have hn := h n (Nat.lt_succ_self n)
    show 27 * nmV L n + L n < _
    have e : ((27 ^ (n + 1) : Nat) : Int) = 27 * ((27 ^ n : Nat) : Int) := by rw [Nat.pow_succ, Nat.mul_comm]; push_cast; rfl
    rw [e]
    omega
theorem nmV_div {L : Nat → Int} {n : Nat} (h : ∀ q, q < n + 1 → 1 ≤ L q ∧ L q ≤ 26) : nmV L (n + 1) / 27 = nmV L n ∧ nmV L (n + 1) % 27 = L n := by
  have hn := h n (Nat.lt_succ_self n)
  show (27 * nmV L n + L n) / 27 = _ ∧ (27 * nmV L n + L n) % 27 = _
  omega
section LE
variable {d : Nat} {V H : Hp} {Q : AV → Hp → Prop}
set_option maxRecDepth 20000 in
theorem q_letterC (hI : Inq V) {r k : Int} : CC (d + 1) EO_letter [va 1, vi r, vi k] V Q = Q (vi (letS V r k)) V := by
  refine CC_dt fun Q hQ => ?_
  have hH : Vw V V := Vw.rf
  have e6 := hI.plan.rowers
  have hR := hI.boat.r
  have z1 := shp hI
  unfold letS at hQ
  by_cases a1 : 0 ≤ r ∧ r < nR V
  · by_cases a2 : k < 0
    · rw [if_neg (fun z => by have := z.2.1; omega)] at hQ
      have f := hH.f hI.ptr; have g := pl_f hH hI.pp hI.ptr; simp only [en_EO_letter, e_EO_letter_0, k_EO_letter_0, e_EO_letter_1, k_EO_letter_1, e_EO_letter_2, k_EO_letter_2, rr, sh, Nat.reduceLT, Nat.reduceMul, Int.reduceToNat, Int.reduceGT, Int.reduceGE, Int.reduceNe, true_and, and_true, true_or, or_true, false_or, or_false, and_self, or_self, if_true, if_false, reduceIte, not_true_eq_false, not_false_eq_true, Int.reduceEq, Int.reduceNe, Int.reduceLT, Int.reduceLE, Int.reduceAdd, Int.reduceSub, Int.reduceMul, Int.reduceNeg, Nat.reduceAdd, Nat.reduceLeDiff, Nat.reduceEqDiff, ne_eq, List.length_cons, List.length_nil, Nat.reduceSub, ite10_0, ite10_1, ite10_01, Classical.not_not, f, g, z1, e6, q_isRower z1, a1, a2] <;> clear f g e6
      exact hQ
    · by_cases a3 : k < 6
      · rw [if_pos ⟨a1, Int.not_lt.mp a2, a3⟩] at hQ
        have w1 : w32 (w32 (r * 6) + k) = 6 * r + k := by
          clear z1 e6
          rw [w32_id (x := r * 6) (by omega) (by omega), w32_id (by omega) (by omega)]; omega
        have ji : 0 ≤ 6 * r + k ∧ 6 * r + k < 72 := by clear z1 e6 w1; omega
        have f := hH.f hI.ptr; have g := pl_f hH hI.pp hI.ptr; simp only [en_EO_letter, e_EO_letter_0, k_EO_letter_0, e_EO_letter_1, k_EO_letter_1, e_EO_letter_2, k_EO_letter_2, rr, sh, Nat.reduceLT, Nat.reduceMul, Int.reduceToNat, Int.reduceGT, Int.reduceGE, Int.reduceNe, true_and, and_true, true_or, or_true, false_or, or_false, and_self, or_self, if_true, if_false, reduceIte, not_true_eq_false, not_false_eq_true, Int.reduceEq, Int.reduceNe, Int.reduceLT, Int.reduceLE, Int.reduceAdd, Int.reduceSub, Int.reduceMul, Int.reduceNeg, Nat.reduceAdd, Nat.reduceLeDiff, Nat.reduceEqDiff, ne_eq, List.length_cons, List.length_nil, Nat.reduceSub, ite10_0, ite10_1, ite10_01, Classical.not_not, f, g, z1, e6, q_isRower z1, a1, a2, a3, w1, ji] <;> clear f g e6 w1
        exact hQ
      · rw [if_neg (fun z => a3 z.2.2)] at hQ
        have f := hH.f hI.ptr; have g := pl_f hH hI.pp hI.ptr; simp only [en_EO_letter, e_EO_letter_0, k_EO_letter_0, e_EO_letter_1, k_EO_letter_1, e_EO_letter_2, k_EO_letter_2, rr, sh, Nat.reduceLT, Nat.reduceMul, Int.reduceToNat, Int.reduceGT, Int.reduceGE, Int.reduceNe, true_and, and_true, true_or, or_true, false_or, or_false, and_self, or_self, if_true, if_false, reduceIte, not_true_eq_false, not_false_eq_true, Int.reduceEq, Int.reduceNe, Int.reduceLT, Int.reduceLE, Int.reduceAdd, Int.reduceSub, Int.reduceMul, Int.reduceNeg, Nat.reduceAdd, Nat.reduceLeDiff, Nat.reduceEqDiff, ne_eq, List.length_cons, List.length_nil, Nat.reduceSub, ite10_0, ite10_1, ite10_01, Classical.not_not, f, g, z1, e6, q_isRower z1, a1, a2, a3] <;> clear f g e6
        exact hQ
  · rw [if_neg (fun z => a1 z.1)] at hQ
    have f := hH.f hI.ptr; have g := pl_f hH hI.pp hI.ptr; simp only [en_EO_letter, e_EO_letter_0, k_EO_letter_0, e_EO_letter_1, k_EO_letter_1, e_EO_letter_2, k_EO_letter_2, rr, sh, Nat.reduceLT, Nat.reduceMul, Int.reduceToNat, Int.reduceGT, Int.reduceGE, Int.reduceNe, true_and, and_true, true_or, or_true, false_or, or_false, and_self, or_self, if_true, if_false, reduceIte, not_true_eq_false, not_false_eq_true, Int.reduceEq, Int.reduceNe, Int.reduceLT, Int.reduceLE, Int.reduceAdd, Int.reduceSub, Int.reduceMul, Int.reduceNeg, Nat.reduceAdd, Nat.reduceLeDiff, Nat.reduceEqDiff, ne_eq, List.length_cons, List.length_nil, Nat.reduceSub, ite10_0, ite10_1, ite10_01, Classical.not_not, f, g, z1, e6, q_isRower z1, a1] <;> clear f g e6
    exact hQ
set_option maxRecDepth 20000 in
theorem c_letterM (hM : Inm V) (hN : NamR V) {r k : Int} (hQ : Q (vi (letS V r k)) V) : CC (d + 2) MO_letter [va 71, vi r, vi k] V Q := by
  have hH : Vw V V := Vw.rf
  have hR := hM.boat.r
  have p33 : V 71 33 = 95 := hM.ptr (71, 33, 95) (by decide +kernel)
  unfold letS at hQ
  by_cases a1 : 0 ≤ r ∧ r < nR V
  · by_cases a2 : 0 ≤ k ∧ k ≤ 5
    · rw [if_pos ⟨a1, a2.1, by omega⟩] at hQ
      obtain ⟨q, rfl⟩ := Int.eq_ofNat_of_zero_le a1.1
      obtain ⟨i, rfl⟩ := Int.eq_ofNat_of_zero_le a2.1
      have hq : q < nR V := Int.ofNat_lt.mp a1.2
      have hi : i < 6 := by omega
      obtain ⟨n, n1, n6, hv, hL, hz⟩ := hN q hq
      have hidx : (6 * (q : Int) + i) = ((6 * q + i : Nat) : Int) := by push_cast; rfl
      rw [hidx] at hQ
      generalize hLd : (fun x : Nat => V (V 4 0 + 4) ((6 * q + x : Nat) : Int)) = L at *
      have eL : ∀ x : Nat, V (V 4 0 + 4) ((6 * q + x : Nat) : Int) = L x := fun x => by rw [← hLd]
      have hL' : ∀ x, x < n → 1 ≤ L x ∧ L x ≤ 26 := fun x hx => by rw [← eL]; exact hL x hx
      have hz' : ∀ x, n ≤ x → x < 6 → L x = 0 := fun x h1 h2 => by rw [← eL]; exact hz x h1 h2
      rw [eL] at hQ
      have w1 : w32 (12 + (q : Int)) = 12 + q := w32_id (by clear hQ hv hL hz hLd eL; omega) (by clear hQ hv hL hz hLd eL; omega)
      have j1 : 0 ≤ 12 + (q : Int) ∧ 12 + (q : Int) < 24 := by clear hQ hv hL hz hLd eL w1; omega
      have hb : ∀ x, x ≤ n → 0 ≤ nmV L x ∧ nmV L x < 1000000000 := fun x hx => by
        have h1 := nmV_nn (L := L) (n := x) (fun y hy => hL' y (Nat.lt_of_lt_of_le hy hx))
        have h2 := nmV_lt (L := L) (n := x) (fun y hy => hL' y (Nat.lt_of_lt_of_le hy hx))
        have h3 : 27 ^ x ≤ 27 ^ 6 := Nat.pow_le_pow_right (by decide) (Nat.le_trans hx n6)
        generalize 27 ^ x = y at h2 h3
        clear hQ hv hL hz hLd eL w1
        omega
      have wdiv : ∀ x, x < n → w64 ((nmV L (x + 1)).tdiv 27) = nmV L x := fun x hx => by
        have h1 := hb (x + 1) hx
        have h2 := hb x (Nat.le_of_lt hx)
        rw [Int.tdiv_eq_ediv_of_nonneg h1.1, (nmV_div (fun y hy => hL' y (Nat.lt_of_lt_of_le hy hx))).1]
        exact w64_id (by clear hQ hv hL hz hLd eL w1; omega) (by clear hQ hv hL hz hLd eL w1; omega)
      simp only [en_MO_letter, e_MO_letter_0, k_MO_letter_0, e_MO_letter_2, k_MO_letter_2, rr, sh, Nat.reduceLT, Nat.reduceMul, Int.reduceToNat, Int.reduceGT, Int.reduceGE, Int.reduceNe, true_and, and_true, true_or, or_true, false_or, or_false, and_self, or_self, if_true, if_false, reduceIte, not_true_eq_false, not_false_eq_true, Int.reduceEq, Int.reduceNe, Int.reduceLT, Int.reduceLE, Int.reduceAdd, Int.reduceSub, Int.reduceMul, Int.reduceNeg, Nat.reduceAdd, Nat.reduceLeDiff, Nat.reduceEqDiff, ne_eq, List.length_cons, List.length_nil, Nat.reduceSub, q_isRowerM hM hH, a1, q_isIn, a2, p33, w1, j1, hv]
      -- how many letters
      have k3 := dn_nat (P := fun x => x ≤ n → R (d + 2) MO_letter (blk MO_letter 3) [va 71, vi q, vi i, vl (nmV L n), vu, vi ((n - x : Nat) : Int), vl (nmV L x), vu] [] V Q) (lo := 0) ?_ ?_ n (Nat.zero_le n) (Nat.le_refl n)
      · rw [Nat.sub_self] at k3
        exact k3
      · intro _
        have c0 : nmV L 0 ≤ 0 := Int.le_refl _
        rw [e_MO_letter_3, Nat.sub_zero]
        by_cases hin : i < n
        · have cin : (i : Int) < n := Int.ofNat_lt.mpr hin
          have wn : w32 ((n : Int) - 1) = (n : Int) - 1 := w32_id (by clear hQ hv hL hz hLd eL w1 wdiv hb hL' hz'; omega) (by clear hQ hv hL hz hLd eL w1 wdiv hb hL' hz'; omega)
          simp only [k_MO_letter_3, e_MO_letter_4, k_MO_letter_4, e_MO_letter_5, k_MO_letter_5, rr, sh, Nat.reduceLT, Nat.reduceMul, Int.reduceToNat, Int.reduceGT, Int.reduceGE, Int.reduceNe, true_and, and_true, true_or, or_true, false_or, or_false, and_self, or_self, if_true, if_false, reduceIte, not_true_eq_false, not_false_eq_true, Int.reduceEq, Int.reduceNe, Int.reduceLT, Int.reduceLE, Int.reduceAdd, Int.reduceSub, Int.reduceMul, Int.reduceNeg, Nat.reduceAdd, Nat.reduceLeDiff, Nat.reduceEqDiff, ne_eq, List.length_cons, List.length_nil, Nat.reduceSub, c3_le, c0, cin, wn]
          have k6 := dn_nat (P := fun x => x ≤ n → R (d + 2) MO_letter (blk MO_letter 6) [va 71, vi q, vi i, vl (nmV L x), vu, vi n, vi ((x : Int) - 1), vu] [] V Q) (lo := i + 1) ?_ ?_ n hin (Nat.le_refl n)
          · exact k6
          · intro _
            have c1 : ((i + 1 : Nat) : Int) - 1 ≤ i := by clear hQ hv hL hz hLd eL w1 wdiv hb hL' hz' wn; omega
            have hb1 := hb (i + 1) hin
            have hli := hL' i hin
            have wm : w32 (w64 ((nmV L (i + 1)).tmod 27)) = L i := by
              rw [Int.tmod_eq_emod_of_nonneg hb1.1, (nmV_div (fun y hy => hL' y (Nat.lt_of_lt_of_le hy hin))).2, w64_id (by clear hQ hv hL hz hLd eL w1 wdiv hb hz' wn; omega) (by clear hQ hv hL hz hLd eL w1 wdiv hb hz' wn; omega), w32_id (by clear hQ hv hL hz hLd eL w1 wdiv hb hz' wn; omega) (by clear hQ hv hL hz hLd eL w1 wdiv hb hz' wn; omega)]
            rw [e_MO_letter_6]
            simp only [k_MO_letter_6, e_MO_letter_7, k_MO_letter_7, rr, sh, Nat.reduceLT, Nat.reduceMul, Int.reduceToNat, Int.reduceGT, Int.reduceGE, Int.reduceNe, true_and, and_true, true_or, or_true, false_or, or_false, and_self, or_self, if_true, if_false, reduceIte, not_true_eq_false, not_false_eq_true, Int.reduceEq, Int.reduceNe, Int.reduceLT, Int.reduceLE, Int.reduceAdd, Int.reduceSub, Int.reduceMul, Int.reduceNeg, Nat.reduceAdd, Nat.reduceLeDiff, Nat.reduceEqDiff, ne_eq, List.length_cons, List.length_nil, Nat.reduceSub, c1, wm]
            exact hQ
          · intro x hx ih6 hxn
            obtain ⟨y, rfl⟩ : ∃ y, x = y + 1 := ⟨x - 1, by clear hQ hv hL hz hLd eL w1 wdiv hb hL' hz' wn ih6; omega⟩
            have ex : ((y + 1 : Nat) : Int) - 1 = y := by clear hQ hv hL hz hLd eL w1 wdiv hb hL' hz' wn ih6; omega
            have c1 : ¬ (y : Int) ≤ i := by clear hQ hv hL hz hLd eL w1 wdiv hb hL' hz' wn ih6; omega
            have wy : w32 ((y : Int) + -1) = (y : Int) - 1 := w32_id (by clear hQ hv hL hz hLd eL w1 wdiv hb hL' hz' wn ih6; omega) (by clear hQ hv hL hz hLd eL w1 wdiv hb hL' hz' wn ih6; omega)
            rw [e_MO_letter_6, ex]
            simp only [k_MO_letter_6, rr, sh, Nat.reduceLT, Nat.reduceMul, Int.reduceToNat, Int.reduceGT, Int.reduceGE, Int.reduceNe, true_and, and_true, true_or, or_true, false_or, or_false, and_self, or_self, if_true, if_false, reduceIte, not_true_eq_false, not_false_eq_true, Int.reduceEq, Int.reduceNe, Int.reduceLT, Int.reduceLE, Int.reduceAdd, Int.reduceSub, Int.reduceMul, Int.reduceNeg, Nat.reduceAdd, Nat.reduceLeDiff, Nat.reduceEqDiff, ne_eq, List.length_cons, List.length_nil, Nat.reduceSub, c1, wdiv y hxn, wy]
            exact ih6 (Nat.le_of_succ_le hxn)
        · have cin : ¬ (i : Int) < n := fun z => hin (Int.ofNat_lt.mp z)
          rw [hz' i (Nat.not_lt.mp hin) hi] at hQ
          simp only [k_MO_letter_3, e_MO_letter_4, k_MO_letter_4, rr, sh, Nat.reduceLT, Nat.reduceMul, Int.reduceToNat, Int.reduceGT, Int.reduceGE, Int.reduceNe, true_and, and_true, true_or, or_true, false_or, or_false, and_self, or_self, if_true, if_false, reduceIte, not_true_eq_false, not_false_eq_true, Int.reduceEq, Int.reduceNe, Int.reduceLT, Int.reduceLE, Int.reduceAdd, Int.reduceSub, Int.reduceMul, Int.reduceNeg, Nat.reduceAdd, Nat.reduceLeDiff, Nat.reduceEqDiff, ne_eq, List.length_cons, List.length_nil, Nat.reduceSub, c3_le, c0, cin]
          exact hQ
      · intro x hx ih3 hxn
        obtain ⟨y, rfl⟩ : ∃ y, x = y + 1 := ⟨x - 1, by clear hQ hv hL hz hLd eL w1 wdiv hb hL' hz' ih3; omega⟩
        have hp := nmV_pos (L := L) (n := y + 1) (Nat.succ_pos y) (fun z hz2 => hL' z (Nat.lt_of_lt_of_le hz2 hxn))
        have c0 : ¬ nmV L (y + 1) ≤ 0 := by clear hQ hv hL hz hLd eL w1 wdiv hb hL' hz' ih3; omega
        have wn : w32 (((n - (y + 1) : Nat) : Int) + 1) = ((n - y : Nat) : Int) := by rw [w32_id (by clear hQ hv hL hz hLd eL w1 wdiv hb hL' hz' ih3; omega) (by clear hQ hv hL hz hLd eL w1 wdiv hb hL' hz' ih3; omega)]; clear hQ hv hL hz hLd eL w1 wdiv hb hL' hz' ih3; omega
        rw [e_MO_letter_3]
        simp only [k_MO_letter_3, rr, sh, Nat.reduceLT, Nat.reduceMul, Int.reduceToNat, Int.reduceGT, Int.reduceGE, Int.reduceNe, true_and, and_true, true_or, or_true, false_or, or_false, and_self, or_self, if_true, if_false, reduceIte, not_true_eq_false, not_false_eq_true, Int.reduceEq, Int.reduceNe, Int.reduceLT, Int.reduceLE, Int.reduceAdd, Int.reduceSub, Int.reduceMul, Int.reduceNeg, Nat.reduceAdd, Nat.reduceLeDiff, Nat.reduceEqDiff, ne_eq, List.length_cons, List.length_nil, Nat.reduceSub, c3_le, c0, wn, wdiv y hxn]
        exact ih3 (Nat.le_of_succ_le hxn)
    · rw [if_neg (fun z => a2 ⟨z.2.1, by omega⟩)] at hQ
      simp only [en_MO_letter, e_MO_letter_0, k_MO_letter_0, e_MO_letter_1, k_MO_letter_1, rr, sh, Nat.reduceLT, Nat.reduceMul, Int.reduceToNat, Int.reduceGT, Int.reduceGE, Int.reduceNe, true_and, and_true, true_or, or_true, false_or, or_false, and_self, or_self, if_true, if_false, reduceIte, not_true_eq_false, not_false_eq_true, Int.reduceEq, Int.reduceNe, Int.reduceLT, Int.reduceLE, Int.reduceAdd, Int.reduceSub, Int.reduceMul, Int.reduceNeg, Nat.reduceAdd, Nat.reduceLeDiff, Nat.reduceEqDiff, ne_eq, List.length_cons, List.length_nil, Nat.reduceSub, q_isRowerM hM hH, a1, q_isIn, a2]
      exact hQ
  · rw [if_neg (fun z => a1 z.1)] at hQ
    simp only [en_MO_letter, e_MO_letter_0, k_MO_letter_0, e_MO_letter_1, k_MO_letter_1, rr, sh, Nat.reduceLT, Nat.reduceMul, Int.reduceToNat, Int.reduceGT, Int.reduceGE, Int.reduceNe, true_and, and_true, true_or, or_true, false_or, or_false, and_self, or_self, if_true, if_false, reduceIte, not_true_eq_false, not_false_eq_true, Int.reduceEq, Int.reduceNe, Int.reduceLT, Int.reduceLE, Int.reduceAdd, Int.reduceSub, Int.reduceMul, Int.reduceNeg, Nat.reduceAdd, Nat.reduceLeDiff, Nat.reduceEqDiff, ne_eq, List.length_cons, List.length_nil, Nat.reduceSub, q_isRowerM hM hH, a1]
    exact hQ
end LE
theorem p_letter {d : Nat} {V : Hp} (h : Inv0 V) {r k : Int} : Pair V (d + 10) EO_letter MO_letter [va 1, vi r, vi k] [va 71, vi r, vi k] := by
  unfold Pair
  rw [show d + 10 = (d + 9) + 1 from rfl, q_letterC h.q]
  exact c_letterM (d := d + 8) h.m h.2.2.2.2.2.2.2.2.1 ⟨rfl, h⟩
