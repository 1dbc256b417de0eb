/-! under: the reference -/
def RSt (H : Hp) (x : Int) : Prop := (x = -1 ∧ H 71 65 = -1) ∨ (∃ v s p : Int, x = keyU v s p ∧ 0 ≤ v ∧ (0 ≤ s ∧ s < 100000) ∧ (0 ≤ p ∧ p < 144) ∧ H 71 63 = v ∧ H 71 64 = s ∧ H 71 65 = p)
theorem RSt.put {H : Hp} {v s p : Int} (h1 : 0 ≤ v) (h2 : 0 ≤ s ∧ s < 100000) (h3 : 0 ≤ p ∧ p < 144) : RSt (hs (hs (hs H 71 63 v) 71 64 s) 71 65 p) (keyU v s p) := Or.inr ⟨v, s, p, rfl, h1, h2, h3, by rw [hs2 (by decide), hs2 (by decide)]; exact hs_same, by rw [hs2 (by decide)]; exact hs_same, hs_same⟩
section UR
variable {d : Nat} {V H : Hp} {Q : AV → Hp → Prop}
set_option maxRecDepth 20000 in
theorem c_underBy (hM : Inm V) (hH : Vw V H) {a b n : Nat} (hab : a < b) (hb : b < nS V) (hn1 : 1 ≤ n) (hn : n ≤ 100) {S : Int → Prop} {x : Int} (hS : MinOf S x) (hR : RSt H x) (hQ : ∀ H' x', Vw V H' → MinOf (fun z => S z ∨ ∃ i, 1 ≤ i ∧ i ≤ n ∧ z = keyU (vU V a b n i) (V 71 47 + i) (12 * a + b)) x' → RSt H' x' → Q vu H') : CC (d + 4) MO_underBy [va 71, vi a, vi b, vi n] H Q := by
  have hnS := hM.boat.s
  have hst := hM.crew.stroke
  have hsd := sdV_lt hM
  have p50 : V 71 50 = 107 := hM.ptr (71, 50, 107) (by decide +kernel)
  have ha : a < nS V := Nat.lt_trans hab hb
  have hne : a ≠ b := Nat.ne_of_lt hab
  have ja : 0 ≤ (a : Int) ∧ (a : Int) < 12 := by omega
  have jb : 0 ≤ (b : Int) ∧ (b : Int) < 12 := by omega
  have hM2 := swp_inm hM ha hb hne
  have eD2 : sdV (swp V a b) = sdV V := by unfold sdV; rw [swp_c (by decide)]
  have es0 : w32 (w32 (12 * (a : Int)) + b) = 12 * a + b := by rw [w32_id (x := 12 * (a : Int)) (by omega) (by omega), w32_id (by omega) (by omega)]
  have jp : 0 ≤ 12 * (a : Int) + b ∧ 12 * (a : Int) + b < 144 := by omega
  have wn : w32 (V 71 47 + n) = V 71 47 + n := w32_id (by omega) (by omega)
  simp only [en_MO_underBy, e_MO_underBy_0, k_MO_underBy_0, rr, sh, Nat.reduceLT, Nat.reduceMul, Int.reduceToNat, Int.reduceGT, Int.reduceGE, Int.reduceNe, true_and, and_true, true_or, or_true, false_or, or_false, and_self, or_self, if_true, if_false, reduceIte, not_true_eq_false, not_false_eq_true, Int.reduceEq, Int.reduceNe, Int.reduceLT, Int.reduceLE, Int.reduceAdd, Int.reduceSub, Int.reduceMul, Int.reduceNeg, Nat.reduceAdd, Nat.reduceLeDiff, Nat.reduceEqDiff, ne_eq, List.length_cons, List.length_nil, Nat.reduceSub]
  refine up_nat (P := fun k => ∀ x H' (y1 y2 y3 y4 : AV), Vw V H' → MinOf (fun z => S z ∨ ∃ i, 1 ≤ i ∧ i ≤ k ∧ z = keyU (vU V a b n i) (V 71 47 + i) (12 * a + b)) x → RSt H' x → R (d + 4) MO_underBy (blk MO_underBy 1) [va 71, vi a, vi b, vi n, vl (mxI (swA V (sdV V)) (V 71 47 + 1) k), vu, vi ((k + 1 : Nat) : Int), y1, y2, y3, y4] [] H' Q) ?_ ?_ 0 (Nat.zero_le n) x H vu vu vu vu hH (hS.cg fun z => ⟨fun h => Or.inl h, fun h => h.elim id (fun ⟨i, i1, i2, _⟩ => absurd (Nat.le_trans i1 i2) (by decide))⟩) hR
  · intro x H' y1 y2 y3 y4 b1 b2 b3
    have c1 : (n : Int) < ((n + 1 : Nat) : Int) := by omega
    rw [e_MO_underBy_1]
    simp only [k_MO_underBy_1, e_MO_underBy_7, k_MO_underBy_7, rr, sh, Nat.reduceLT, Nat.reduceMul, Int.reduceToNat, Int.reduceGT, Int.reduceGE, Int.reduceNe, true_and, and_true, true_or, or_true, false_or, or_false, and_self, or_self, if_true, if_false, reduceIte, not_true_eq_false, not_false_eq_true, Int.reduceEq, Int.reduceNe, Int.reduceLT, Int.reduceLE, Int.reduceAdd, Int.reduceSub, Int.reduceMul, Int.reduceNeg, Nat.reduceAdd, Nat.reduceLeDiff, Nat.reduceEqDiff, ne_eq, List.length_cons, List.length_nil, Nat.reduceSub, c1]
    exact hQ H' x b1 b2 b3
  · intro k hk ih x H' y1 y2 y3 y4 b1 b2 b3
    have c1 : ¬ (n : Int) < ((k + 1 : Nat) : Int) := by clear ih b2 b3 hQ es0 wn; omega
    have kw := w32_s (n := k + 1) (by clear ih b2 b3 hQ es0 wn; omega)
    have wi : w32 (V 71 47 + ((k + 1 : Nat) : Int)) = V 71 47 + ((k + 1 : Nat) : Int) := w32_id (by clear ih b2 b3 hQ es0 wn kw; omega) (by clear ih b2 b3 hQ es0 wn kw; omega)
    have p50' : H' 71 50 = 107 := (b1 71 50 rfl).trans p50
    have p47 : H' 71 47 = V 71 47 := b1 71 47 rfl
    have p49 : H' 71 49 = sdV V := (b1 71 49 rfl).trans hM.crew.sides.1
    have hX2 := swp_vw b1 (a := a) (b := b)
    have hk1 : ∀ {Q : AV → Hp → Prop}, CC (d + 3) MO_changesSeats [va 71, vi a, vi b] H' Q = Q vu (swp H' a b) := fun {Q} => q_changesSeats p50' ja jb
    have hk2 : ∀ {Q : AV → Hp → Prop}, CC (d + 3) MO_changesSeats [va 71, vi a, vi b] (swp H' a b) Q = Q vu H' := fun {Q} => by rw [q_changesSeats (by rw [swp_c (by decide)]; exact p50') ja jb, swp_back hne]
    have x47 : swp H' a b 71 47 = V 71 47 := by rw [swp_c (by decide)]; exact p47
    have x49 : swp H' a b 71 49 = sdV V := by rw [swp_c (by decide)]; exact p49
    generalize swp H' a b = X at *
    obtain ⟨r, hr⟩ : ∃ r, n = k + r := ⟨n - k, by clear ih b2 b3 hQ es0 wn kw; omega⟩
    have hg : ∀ {Q : AV → Hp → Prop}, CC (d + 3) MO_greatest [va 71, vi (sdV V), vi (V 71 47 + ((k + 1 : Nat) : Int)), vi (V 71 47 + n)] X Q = Q (vl (mxI (swA (swp V a b) (sdV V)) (V 71 47 + ((k + 1 : Nat) : Int)) (n + 1 - (k + 1)))) X := fun {Q} => by
      have := q_moGreatest (d := d) (Q := Q) hM2 hX2 hsd (n := r) (b := sdV V) (by clear ih b2 b3 hQ es0 wn kw; omega) (lo := V 71 47 + ((k + 1 : Nat) : Int)) (by clear ih b2 b3 hQ es0 wn kw; omega) (by clear ih b2 b3 hQ es0 wn kw; omega)
      rw [show V 71 47 + ((k + 1 : Nat) : Int) + (r : Int) - 1 = V 71 47 + n by clear ih b2 b3 hQ es0 wn kw this; omega] at this
      rw [this, show n + 1 - (k + 1) = r by clear ih b2 b3 hQ es0 wn kw this; omega]
    have hsw : ∀ {Q : AV → Hp → Prop}, CC (d + 3) MO_swingBy [va 71, vi 1, vi (sdV V), vi (V 71 47 + ((k + 1 : Nat) : Int))] H' Q = Q (vl (w64 (sww V 1 (sdV V) (V 71 47 + ((k + 1 : Nat) : Int))))) H' := fun {Q} => q_swingBy (q := 1) hM b1 (by decide) hsd (by clear ih b2 b3 hQ es0 wn kw; omega) (by clear ih b2 b3 hQ es0 wn kw; omega)
    have hv : max (mxI (swA V (sdV V)) (V 71 47 + 1) k) (mxI (swA (swp V a b) (sdV V)) (V 71 47 + ((k + 1 : Nat) : Int)) (n + 1 - (k + 1))) = vU V a b n (k + 1) := rfl
    have hah : max (mxI (swA V (sdV V)) (V 71 47 + 1) k) (abL (w64 (sww V 1 (sdV V) (V 71 47 + ((k + 1 : Nat) : Int))))) = mxI (swA V (sdV V)) (V 71 47 + 1) (k + 1) := by
      show _ = max (mxI (swA V (sdV V)) (V 71 47 + 1) k) (swA V (sdV V) (V 71 47 + 1 + (k : Int)))
      rw [show V 71 47 + 1 + (k : Int) = V 71 47 + ((k + 1 : Nat) : Int) by clear ih b2 b3 hQ es0 wn kw; omega]
      rfl
    have hv0 := vU_0 V a b n (k + 1)
    have hkey : 0 ≤ keyU (vU V a b n (k + 1)) (V 71 47 + ((k + 1 : Nat) : Int)) (12 * a + b) := by unfold keyU; clear ih b2 b3 hQ es0 wn kw hv hah; omega
    have hset : ∀ x', MinOf (fun z => (S z ∨ ∃ i, 1 ≤ i ∧ i ≤ k ∧ z = keyU (vU V a b n i) (V 71 47 + i) (12 * a + b)) ∨ z = keyU (vU V a b n (k + 1)) (V 71 47 + ((k + 1 : Nat) : Int)) (12 * a + b)) x' → MinOf (fun z => S z ∨ ∃ i, 1 ≤ i ∧ i ≤ k + 1 ∧ z = keyU (vU V a b n i) (V 71 47 + i) (12 * a + b)) x' := fun x' h => h.cg fun z => by
      constructor
      · rintro ((h | ⟨i, i1, i2, i3⟩) | h)
        · exact Or.inl h
        · exact Or.inr ⟨i, i1, Nat.le_succ_of_le i2, i3⟩
        · exact Or.inr ⟨k + 1, Nat.succ_pos k, Nat.le_refl _, h⟩
      · rintro (h | ⟨i, i1, i2, i3⟩)
        · exact Or.inl (Or.inl h)
        · by_cases e : i = k + 1
          · subst e; exact Or.inr i3
          · exact Or.inl (Or.inr ⟨i, i1, Nat.le_of_lt_succ (Nat.lt_of_le_of_ne i2 e), i3⟩)
    have hstp := b2.step hkey
    have hput : RSt (hs (hs (hs H' 71 63 (vU V a b n (k + 1))) 71 64 (V 71 47 + ((k + 1 : Nat) : Int))) 71 65 (12 * a + b)) (keyU (vU V a b n (k + 1)) (V 71 47 + ((k + 1 : Nat) : Int)) (12 * a + b)) := RSt.put hv0 (by clear ih b2 b3 hQ es0 wn kw hv hah hkey hset hstp; omega) jp
    have q47 : ∀ v, hs H' 71 63 v 71 47 = V 71 47 := fun v => (hs2 (by decide)).trans p47
    have ih1 : mnU x (keyU (vU V a b n (k + 1)) (V 71 47 + ((k + 1 : Nat) : Int)) (12 * a + b)) = keyU (vU V a b n (k + 1)) (V 71 47 + ((k + 1 : Nat) : Int)) (12 * a + b) → ∀ y1 y2 y3 y4, R (d + 4) MO_underBy (blk MO_underBy 1) [va 71, vi a, vi b, vi n, vl (mxI (swA V (sdV V)) (V 71 47 + 1) (k + 1)), vu, vi ((k + 1 + 1 : Nat) : Int), y1, y2, y3, y4] [] (hs (hs (hs H' 71 63 (vU V a b n (k + 1))) 71 64 (V 71 47 + ((k + 1 : Nat) : Int))) 71 65 (12 * a + b)) Q := fun he y1 y2 y3 y4 => by
      rw [he] at hstp
      exact ih _ _ _ _ _ _ (((b1.hs (c := 71) (j := 63) rfl).hs (c := 71) (j := 64) rfl).hs (c := 71) (j := 65) rfl) (hset _ hstp) hput
    have ih2 : mnU x (keyU (vU V a b n (k + 1)) (V 71 47 + ((k + 1 : Nat) : Int)) (12 * a + b)) = x → ∀ y1 y2 y3 y4, R (d + 4) MO_underBy (blk MO_underBy 1) [va 71, vi a, vi b, vi n, vl (mxI (swA V (sdV V)) (V 71 47 + 1) (k + 1)), vu, vi ((k + 1 + 1 : Nat) : Int), y1, y2, y3, y4] [] H' Q := fun he y1 y2 y3 y4 => by
      rw [he] at hstp
      exact ih _ _ _ _ _ _ b1 (hset _ hstp) b3
    clear ih hset hstp hput hQ
    rw [e_MO_underBy_1]
    rcases b3 with ⟨x1, x2⟩ | ⟨v, s, p, x1, xv, xs, xp, z63, z64, z65⟩
    · have he : mnU x (keyU (vU V a b n (k + 1)) (V 71 47 + ((k + 1 : Nat) : Int)) (12 * a + b)) = keyU (vU V a b n (k + 1)) (V 71 47 + ((k + 1 : Nat) : Int)) (12 * a + b) := by unfold mnU; rw [if_pos (Or.inl x1)]
      simp only [k_MO_underBy_1, e_MO_underBy_2, k_MO_underBy_2, e_MO_underBy_3, k_MO_underBy_3, e_MO_underBy_4, k_MO_underBy_4, e_MO_underBy_5, k_MO_underBy_5, e_MO_underBy_6, k_MO_underBy_6, rr, sh, Nat.reduceLT, Nat.reduceMul, Int.reduceToNat, Int.reduceGT, Int.reduceGE, Int.reduceNe, true_and, and_true, true_or, or_true, false_or, or_false, and_self, or_self, if_true, if_false, reduceIte, not_true_eq_false, not_false_eq_true, Int.reduceEq, Int.reduceNe, Int.reduceLT, Int.reduceLE, Int.reduceAdd, Int.reduceSub, Int.reduceMul, Int.reduceNeg, Nat.reduceAdd, Nat.reduceLeDiff, Nat.reduceEqDiff, ne_eq, List.length_cons, List.length_nil, Nat.reduceSub, c1, hk1, hk2, x47, x49, wi, wn, hg, q_greater, hv, p47, p49, hsw, q_size, hah, es0, x2, q47, kw]
      exact ih1 he _ _ _ _
    · have x65 : ¬ p = -1 := by clear x1 ih1 ih2 hv hah hkey es0 wn kw wi; omega
      have hx1 : ¬ x = -1 := by rw [x1]; unfold keyU; clear x1 ih1 ih2 hv hah hkey es0 wn kw wi; omega
      by_cases a1 : vU V a b n (k + 1) < v
      · have he : mnU x (keyU (vU V a b n (k + 1)) (V 71 47 + ((k + 1 : Nat) : Int)) (12 * a + b)) = keyU (vU V a b n (k + 1)) (V 71 47 + ((k + 1 : Nat) : Int)) (12 * a + b) := by
          unfold mnU; rw [if_pos (Or.inr (by rw [x1]; unfold keyU; clear x1 ih1 ih2 hv hah hkey es0 wn kw wi; omega))]
        have a1' : ¬ v ≤ vU V a b n (k + 1) := Int.not_le.mpr a1
        simp only [k_MO_underBy_1, e_MO_underBy_2, k_MO_underBy_2, e_MO_underBy_3, k_MO_underBy_3, e_MO_underBy_4, k_MO_underBy_4, e_MO_underBy_5, k_MO_underBy_5, e_MO_underBy_6, k_MO_underBy_6, rr, sh, Nat.reduceLT, Nat.reduceMul, Int.reduceToNat, Int.reduceGT, Int.reduceGE, Int.reduceNe, true_and, and_true, true_or, or_true, false_or, or_false, and_self, or_self, if_true, if_false, reduceIte, not_true_eq_false, not_false_eq_true, Int.reduceEq, Int.reduceNe, Int.reduceLT, Int.reduceLE, Int.reduceAdd, Int.reduceSub, Int.reduceMul, Int.reduceNeg, Nat.reduceAdd, Nat.reduceLeDiff, Nat.reduceEqDiff, ne_eq, List.length_cons, List.length_nil, Nat.reduceSub, c1, hk1, hk2, x47, x49, wi, wn, hg, q_greater, hv, p47, p49, hsw, q_size, hah, es0, z65, x65, z63, c3_ge, a1', q47, kw]
        exact ih1 he _ _ _ _
      · have a1' : v ≤ vU V a b n (k + 1) := Int.not_lt.mp a1
        by_cases a2 : v < vU V a b n (k + 1)
        · have he : mnU x (keyU (vU V a b n (k + 1)) (V 71 47 + ((k + 1 : Nat) : Int)) (12 * a + b)) = x := by
            unfold mnU; rw [if_neg (by rw [x1]; unfold keyU; clear x1 ih1 ih2 hv hah hkey es0 wn kw wi hx1; omega)]
          simp only [k_MO_underBy_1, e_MO_underBy_2, k_MO_underBy_2, e_MO_underBy_3, k_MO_underBy_3, e_MO_underBy_4, k_MO_underBy_4, e_MO_underBy_5, k_MO_underBy_5, e_MO_underBy_6, k_MO_underBy_6, rr, sh, Nat.reduceLT, Nat.reduceMul, Int.reduceToNat, Int.reduceGT, Int.reduceGE, Int.reduceNe, true_and, and_true, true_or, or_true, false_or, or_false, and_self, or_self, if_true, if_false, reduceIte, not_true_eq_false, not_false_eq_true, Int.reduceEq, Int.reduceNe, Int.reduceLT, Int.reduceLE, Int.reduceAdd, Int.reduceSub, Int.reduceMul, Int.reduceNeg, Nat.reduceAdd, Nat.reduceLeDiff, Nat.reduceEqDiff, ne_eq, List.length_cons, List.length_nil, Nat.reduceSub, c1, hk1, hk2, x47, x49, wi, wn, hg, q_greater, hv, p47, p49, hsw, q_size, hah, es0, z65, x65, z63, c3_ge, c3_gt, a1', a2, q47, kw]
          exact ih2 he _ _ _ _
        · have ev : v = vU V a b n (k + 1) := by clear x1 ih1 ih2 hv hah hkey es0 wn kw wi hx1; omega
          by_cases a3 : s < V 71 47 + ((k + 1 : Nat) : Int)
          · have he : mnU x (keyU (vU V a b n (k + 1)) (V 71 47 + ((k + 1 : Nat) : Int)) (12 * a + b)) = x := by
              unfold mnU; rw [if_neg (by rw [x1]; unfold keyU; clear x1 ih1 ih2 hv hah hkey es0 wn kw wi hx1; omega)]
            simp only [k_MO_underBy_1, e_MO_underBy_2, k_MO_underBy_2, e_MO_underBy_3, k_MO_underBy_3, e_MO_underBy_4, k_MO_underBy_4, e_MO_underBy_5, k_MO_underBy_5, e_MO_underBy_6, k_MO_underBy_6, rr, sh, Nat.reduceLT, Nat.reduceMul, Int.reduceToNat, Int.reduceGT, Int.reduceGE, Int.reduceNe, true_and, and_true, true_or, or_true, false_or, or_false, and_self, or_self, if_true, if_false, reduceIte, not_true_eq_false, not_false_eq_true, Int.reduceEq, Int.reduceNe, Int.reduceLT, Int.reduceLE, Int.reduceAdd, Int.reduceSub, Int.reduceMul, Int.reduceNeg, Nat.reduceAdd, Nat.reduceLeDiff, Nat.reduceEqDiff, ne_eq, List.length_cons, List.length_nil, Nat.reduceSub, c1, hk1, hk2, x47, x49, wi, wn, hg, q_greater, hv, p47, p49, hsw, q_size, hah, es0, z65, x65, z63, z64, c3_ge, c3_gt, a1', a2, a3, q47, kw]
            exact ih2 he _ _ _ _
          · by_cases a4 : V 71 47 + ((k + 1 : Nat) : Int) = s
            · subst a4
              by_cases a5 : 12 * (a : Int) + b ≤ p
              · have he : mnU x (keyU (vU V a b n (k + 1)) (V 71 47 + ((k + 1 : Nat) : Int)) (12 * a + b)) = keyU (vU V a b n (k + 1)) (V 71 47 + ((k + 1 : Nat) : Int)) (12 * a + b) := by
                  unfold mnU
                  by_cases a6 : 12 * (a : Int) + b = p
                  · rw [if_neg (by rw [x1]; unfold keyU; clear x1 ih1 ih2 hv hah hkey es0 wn kw wi hx1; omega), x1, ev, a6]
                  · rw [if_pos (Or.inr (by rw [x1]; unfold keyU; clear x1 ih1 ih2 hv hah hkey es0 wn kw wi hx1; omega))]
                have ih1 := ih1 he
                simp only [k_MO_underBy_1, e_MO_underBy_2, k_MO_underBy_2, e_MO_underBy_3, k_MO_underBy_3, e_MO_underBy_4, k_MO_underBy_4, e_MO_underBy_5, k_MO_underBy_5, e_MO_underBy_6, k_MO_underBy_6, rr, sh, Nat.reduceLT, Nat.reduceMul, Int.reduceToNat, Int.reduceGT, Int.reduceGE, Int.reduceNe, true_and, and_true, true_or, or_true, false_or, or_false, and_self, or_self, if_true, if_false, reduceIte, not_true_eq_false, not_false_eq_true, Int.reduceEq, Int.reduceNe, Int.reduceLT, Int.reduceLE, Int.reduceAdd, Int.reduceSub, Int.reduceMul, Int.reduceNeg, Nat.reduceAdd, Nat.reduceLeDiff, Nat.reduceEqDiff, ne_eq, List.length_cons, List.length_nil, Nat.reduceSub, c1, hk1, hk2, x47, x49, wi, wn, hg, q_greater, hv, p47, p49, hsw, q_size, hah, es0, z65, x65, z63, z64, c3_ge, c3_gt, a1', a2, a5, q47, kw, Int.lt_irrefl]
                exact ih1 _ _ _ _
              · have he : mnU x (keyU (vU V a b n (k + 1)) (V 71 47 + ((k + 1 : Nat) : Int)) (12 * a + b)) = x := by
                  unfold mnU; rw [if_neg (by rw [x1]; unfold keyU; clear x1 ih1 ih2 hv hah hkey es0 wn kw wi hx1; omega)]
                simp only [k_MO_underBy_1, e_MO_underBy_2, k_MO_underBy_2, e_MO_underBy_3, k_MO_underBy_3, e_MO_underBy_4, k_MO_underBy_4, e_MO_underBy_5, k_MO_underBy_5, e_MO_underBy_6, k_MO_underBy_6, rr, sh, Nat.reduceLT, Nat.reduceMul, Int.reduceToNat, Int.reduceGT, Int.reduceGE, Int.reduceNe, true_and, and_true, true_or, or_true, false_or, or_false, and_self, or_self, if_true, if_false, reduceIte, not_true_eq_false, not_false_eq_true, Int.reduceEq, Int.reduceNe, Int.reduceLT, Int.reduceLE, Int.reduceAdd, Int.reduceSub, Int.reduceMul, Int.reduceNeg, Nat.reduceAdd, Nat.reduceLeDiff, Nat.reduceEqDiff, ne_eq, List.length_cons, List.length_nil, Nat.reduceSub, c1, hk1, hk2, x47, x49, wi, wn, hg, q_greater, hv, p47, p49, hsw, q_size, hah, es0, z65, x65, z63, z64, c3_ge, c3_gt, a1', a2, a5, q47, kw, Int.lt_irrefl]
                exact ih2 he _ _ _ _
            · have he : mnU x (keyU (vU V a b n (k + 1)) (V 71 47 + ((k + 1 : Nat) : Int)) (12 * a + b)) = keyU (vU V a b n (k + 1)) (V 71 47 + ((k + 1 : Nat) : Int)) (12 * a + b) := by
                unfold mnU; rw [if_pos (Or.inr (by rw [x1]; unfold keyU; clear x1 ih1 ih2 hv hah hkey es0 wn kw wi hx1; omega))]
              simp only [k_MO_underBy_1, e_MO_underBy_2, k_MO_underBy_2, e_MO_underBy_3, k_MO_underBy_3, e_MO_underBy_4, k_MO_underBy_4, e_MO_underBy_5, k_MO_underBy_5, e_MO_underBy_6, k_MO_underBy_6, rr, sh, Nat.reduceLT, Nat.reduceMul, Int.reduceToNat, Int.reduceGT, Int.reduceGE, Int.reduceNe, true_and, and_true, true_or, or_true, false_or, or_false, and_self, or_self, if_true, if_false, reduceIte, not_true_eq_false, not_false_eq_true, Int.reduceEq, Int.reduceNe, Int.reduceLT, Int.reduceLE, Int.reduceAdd, Int.reduceSub, Int.reduceMul, Int.reduceNeg, Nat.reduceAdd, Nat.reduceLeDiff, Nat.reduceEqDiff, ne_eq, List.length_cons, List.length_nil, Nat.reduceSub, c1, hk1, hk2, x47, x49, wi, wn, hg, q_greater, hv, p47, p49, hsw, q_size, hah, es0, z65, x65, z63, z64, c3_ge, c3_gt, a1', a2, a3, a4, q47, kw]
              exact ih1 he _ _ _ _
end UR
