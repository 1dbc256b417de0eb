/-! under: pairs of seats, both loops; the reference, whole -/
def PSt (K : Nat → Nat → Int → Prop) (N a b : Nat) (z : Int) : Prop := ∃ a' b', a' < b' ∧ b' < N ∧ (a' < a ∨ (a' = a ∧ b' < b)) ∧ K a' b' z
theorem PSt_0 (K : Nat → Nat → Int → Prop) (N : Nat) (z : Int) : ¬ PSt K N 0 1 z := fun ⟨a', b', h1, _, h3, _⟩ => by omega
theorem PSt_step (K : Nat → Nat → Int → Prop) {N a b : Nat} (hab : a < b) (hb : b < N) (z : Int) : (PSt K N a b z ∨ K a b z) ↔ PSt K N a (b + 1) z := by
  constructor
  · rintro (⟨a', b', h1, h2, h3, h4⟩ | h)
    · exact ⟨a', b', h1, h2, by omega, h4⟩
    · exact ⟨a, b, hab, hb, by omega, h⟩
  · rintro ⟨a', b', h1, h2, h3, h4⟩
    by_cases e : a' = a ∧ b' = b
    · obtain ⟨rfl, rfl⟩ := e; exact Or.inr h4
    · exact Or.inl ⟨a', b', h1, h2, by omega, h4⟩
theorem PSt_row (K : Nat → Nat → Int → Prop) {N a : Nat} (z : Int) : PSt K N a N z ↔ PSt K N (a + 1) (a + 2) z := by
  constructor
  · rintro ⟨a', b', h1, h2, h3, h4⟩
    exact ⟨a', b', h1, h2, by omega, h4⟩
  · rintro ⟨a', b', h1, h2, h3, h4⟩
    exact ⟨a', b', h1, h2, by omega, h4⟩
theorem PSt_end (K : Nat → Nat → Int → Prop) {N b : Nat} (z : Int) : PSt K N N b z ↔ ∃ a b, a < b ∧ b < N ∧ K a b z := by
  constructor
  · rintro ⟨a', b', h1, h2, h3, h4⟩
    exact ⟨a', b', h1, h2, h4⟩
  · rintro ⟨a', b', h1, h2, h4⟩
    exact ⟨a', b', h1, h2, by omega, h4⟩
def KRu (V : Hp) (n a b : Nat) (z : Int) : Prop := ∃ i, 1 ≤ i ∧ i ≤ n ∧ z = keyU (vU V a b n i) (V 71 47 + i) (12 * a + b)
def KCu (V : Hp) (n a b : Nat) (z : Int) : Prop := ∃ k, k < ntn V n ∧ z = keyU (wU V a b n k) (stU V k) (12 * a + b)
def undA (x w : Int) : Int := if w = 0 then x / 100000000 else if w = 1 then x / 1000 % 100000 else if w = 2 then x % 1000 / 12 else x % 1000 % 12
theorem undA_k {v s p : Int} (hs' : 0 ≤ s ∧ s < 100000) (hp : 0 ≤ p ∧ p < 144) : undA (keyU v s p) 0 = v ∧ undA (keyU v s p) 1 = s ∧ undA (keyU v s p) 2 = p / 12 ∧ undA (keyU v s p) 3 = p % 12 := by
  unfold undA keyU
  refine ⟨?_, ?_, ?_, ?_⟩
  · rw [if_pos rfl]; omega
  · rw [if_neg (by decide), if_pos rfl]; omega
  · rw [if_neg (by decide), if_neg (by decide), if_pos rfl]; omega
  · rw [if_neg (by decide), if_neg (by decide), if_neg (by decide)]; omega
def undOk (V : Hp) (n w : Int) : Prop := (1 ≤ n ∧ n ≤ 100) ∧ (0 ≤ w ∧ w ≤ 3) ∧ 2 ≤ nS V
section US
variable {d : Nat} {V H : Hp} {Q : AV → Hp → Prop}
theorem RSu_ne {n : Nat} (h : 2 ≤ nS V) (hn : 1 ≤ n) {x : Int} (hx : MinOf (RSu V n) x) : x ≠ -1 := by
  rcases hx with ⟨h1, h2⟩ | ⟨h1, -⟩
  · exact absurd ⟨0, 1, by decide, h, 1, Nat.le_refl 1, hn, rfl⟩ (h2 (keyU (vU V 0 1 n 1) (V 71 47 + ((1 : Nat) : Int)) (12 * ((0 : Nat) : Int) + ((1 : Nat) : Int))))
  · omega
set_option maxRecDepth 20000 in
theorem c_underM (hM : Inm V) (hH : Vw V H) {n w : Int} (hno : ¬ undOk V n w → ∀ H', Vw V H' → Q (vl (-1)) H') (hQ : undOk V n w → ∀ H' x, Vw V H' → MinOf (RSu V n.toNat) x → Q (vl (undA x w)) H') : CC (d + 5) MO_under [va 71, vi n, vi w] H Q := by
  have hnS := hM.boat.s
  have p29 : V 71 29 = 91 := hM.ptr (71, 29, 91) (by decide +kernel)
  have f : ∀ {H}, Vw V H → H 71 29 = 91 ∧ H 91 = V 91 := fun {H} h => ⟨(h 71 29 rfl).trans p29, funext fun j => h 91 j rfl⟩
  by_cases h1 : 1 ≤ n ∧ n ≤ 100
  · by_cases h2 : 0 ≤ w ∧ w ≤ 3
    · by_cases h3 : 2 ≤ nS V
      · have h3' : (2 : Int) ≤ nS V := by omega
        obtain ⟨m, rfl⟩ := Int.eq_ofNat_of_zero_le (show 0 ≤ n by omega)
        rw [Int.toNat_natCast] at hQ
        have hm1 : 1 ≤ m := by omega
        have hm : m ≤ 100 := by omega
        have hQ := hQ ⟨h1, h2, h3⟩
        clear hno
        simp only [en_MO_under, e_MO_under_0, k_MO_under_0, e_MO_under_2, k_MO_under_2, en_MO_seats, e_MO_seats_0, k_MO_seats_0, rr, sh, Nat.reduceLT, Nat.reduceMul, Int.reduceToNat, Int.reduceGT, Int.reduceGE, Int.reduceNe, true_and, and_true, true_or, or_true, false_or, or_false, and_self, or_self, if_true, if_false, reduceIte, not_true_eq_false, not_false_eq_true, Int.reduceEq, Int.reduceNe, Int.reduceLT, Int.reduceLE, Int.reduceAdd, Int.reduceSub, Int.reduceMul, Int.reduceNeg, Nat.reduceAdd, Nat.reduceLeDiff, Nat.reduceEqDiff, ne_eq, List.length_cons, List.length_nil, Nat.reduceSub, q_isIn, h1, h2, (f hH).1, (f hH).2, hnS.1, h3']
        refine up_nat (P := fun a => ∀ x H' (y : AV), Vw V H' → MinOf (PSt (KRu V m) (nS V) a (a + 1)) x → RSt H' x → R (d + 5) MO_under (blk MO_under 3) [va 71, vi m, vi w, vi a, y] [] H' Q) ?_ ?_ 0 (Nat.zero_le (nS V)) (-1) _ vu (hH.hs (c := 71) (j := 65) rfl) (Or.inl ⟨rfl, fun z => PSt_0 _ _ z⟩) (Or.inl ⟨rfl, hs_same⟩)
        · intro x H' y b1 b2 b3
          have hx : MinOf (RSu V m) x := b2.cg fun z => PSt_end _ z
          have hne := RSu_ne h3 hm1 hx
          have hA := hQ H' x b1 hx
          rw [e_MO_under_3]
          rcases b3 with ⟨x1, -⟩ | ⟨v, s, p, x1, xv, xs, xp, z63, z64, z65⟩
          · exact absurd x1 hne
          · obtain ⟨u0, u1, u2, u3⟩ := undA_k (v := v) xs xp
            rw [x1] at hA
            have w12 : w32 (p.tdiv 12) = p / 12 := by rw [Int.tdiv_eq_ediv_of_nonneg xp.1, w32_id (by omega) (by omega)]
            have m12 : w32 (p.tmod 12) = p % 12 := by rw [Int.tmod_eq_emod_of_nonneg xp.1, w32_id (by omega) (by omega)]
            by_cases w0 : w = 0
            · subst w0
              rw [u0] at hA
              simp only [k_MO_under_3, e_MO_under_6, k_MO_under_6, e_MO_under_7, k_MO_under_7, e_MO_under_8, k_MO_under_8, e_MO_under_9, k_MO_under_9, e_MO_under_10, k_MO_under_10, en_MO_seats, e_MO_seats_0, k_MO_seats_0, rr, sh, Nat.reduceLT, Nat.reduceMul, Int.reduceToNat, Int.reduceGT, Int.reduceGE, Int.reduceNe, true_and, and_true, true_or, or_true, false_or, or_false, and_self, or_self, if_true, if_false, reduceIte, not_true_eq_false, not_false_eq_true, Int.reduceEq, Int.reduceNe, Int.reduceLT, Int.reduceLE, Int.reduceAdd, Int.reduceSub, Int.reduceMul, Int.reduceNeg, Nat.reduceAdd, Nat.reduceLeDiff, Nat.reduceEqDiff, ne_eq, List.length_cons, List.length_nil, Nat.reduceSub, (f b1).1, (f b1).2, hnS.1, Int.le_refl, z63]
              exact hA
            · by_cases w1 : w = 1
              · subst w1
                rw [u1] at hA
                simp only [k_MO_under_3, e_MO_under_6, k_MO_under_6, e_MO_under_7, k_MO_under_7, e_MO_under_8, k_MO_under_8, e_MO_under_9, k_MO_under_9, e_MO_under_10, k_MO_under_10, en_MO_seats, e_MO_seats_0, k_MO_seats_0, rr, sh, Nat.reduceLT, Nat.reduceMul, Int.reduceToNat, Int.reduceGT, Int.reduceGE, Int.reduceNe, true_and, and_true, true_or, or_true, false_or, or_false, and_self, or_self, if_true, if_false, reduceIte, not_true_eq_false, not_false_eq_true, Int.reduceEq, Int.reduceNe, Int.reduceLT, Int.reduceLE, Int.reduceAdd, Int.reduceSub, Int.reduceMul, Int.reduceNeg, Nat.reduceAdd, Nat.reduceLeDiff, Nat.reduceEqDiff, ne_eq, List.length_cons, List.length_nil, Nat.reduceSub, (f b1).1, (f b1).2, hnS.1, Int.le_refl, z64]
                exact hA
              · by_cases w2 : w = 2
                · subst w2
                  rw [u2] at hA
                  simp only [k_MO_under_3, e_MO_under_6, k_MO_under_6, e_MO_under_7, k_MO_under_7, e_MO_under_8, k_MO_under_8, e_MO_under_9, k_MO_under_9, e_MO_under_10, k_MO_under_10, en_MO_seats, e_MO_seats_0, k_MO_seats_0, rr, sh, Nat.reduceLT, Nat.reduceMul, Int.reduceToNat, Int.reduceGT, Int.reduceGE, Int.reduceNe, true_and, and_true, true_or, or_true, false_or, or_false, and_self, or_self, if_true, if_false, reduceIte, not_true_eq_false, not_false_eq_true, Int.reduceEq, Int.reduceNe, Int.reduceLT, Int.reduceLE, Int.reduceAdd, Int.reduceSub, Int.reduceMul, Int.reduceNeg, Nat.reduceAdd, Nat.reduceLeDiff, Nat.reduceEqDiff, ne_eq, List.length_cons, List.length_nil, Nat.reduceSub, (f b1).1, (f b1).2, hnS.1, Int.le_refl, z65, w12]
                  exact hA
                · have w3 : w = 3 := by omega
                  subst w3
                  rw [u3] at hA
                  simp only [k_MO_under_3, e_MO_under_6, k_MO_under_6, e_MO_under_7, k_MO_under_7, e_MO_under_8, k_MO_under_8, e_MO_under_9, k_MO_under_9, e_MO_under_10, k_MO_under_10, en_MO_seats, e_MO_seats_0, k_MO_seats_0, rr, sh, Nat.reduceLT, Nat.reduceMul, Int.reduceToNat, Int.reduceGT, Int.reduceGE, Int.reduceNe, true_and, and_true, true_or, or_true, false_or, or_false, and_self, or_self, if_true, if_false, reduceIte, not_true_eq_false, not_false_eq_true, Int.reduceEq, Int.reduceNe, Int.reduceLT, Int.reduceLE, Int.reduceAdd, Int.reduceSub, Int.reduceMul, Int.reduceNeg, Nat.reduceAdd, Nat.reduceLeDiff, Nat.reduceEqDiff, ne_eq, List.length_cons, List.length_nil, Nat.reduceSub, (f b1).1, (f b1).2, hnS.1, Int.le_refl, z65, m12]
                  exact hA
        · intro a ha ih x H' y b1 b2 b3
          have c1 : ¬ (nS V : Int) ≤ a := by clear ih b2 b3 hQ; omega
          have kw := w32_s (n := a) (by clear ih b2 b3 hQ; omega)
          rw [e_MO_under_3]
          simp only [k_MO_under_3, en_MO_seats, e_MO_seats_0, k_MO_seats_0, rr, sh, Nat.reduceLT, Nat.reduceMul, Int.reduceToNat, Int.reduceGT, Int.reduceGE, Int.reduceNe, true_and, and_true, true_or, or_true, false_or, or_false, and_self, or_self, if_true, if_false, reduceIte, not_true_eq_false, not_false_eq_true, Int.reduceEq, Int.reduceNe, Int.reduceLT, Int.reduceLE, Int.reduceAdd, Int.reduceSub, Int.reduceMul, Int.reduceNeg, Nat.reduceAdd, Nat.reduceLeDiff, Nat.reduceEqDiff, ne_eq, List.length_cons, List.length_nil, Nat.reduceSub, (f b1).1, (f b1).2, hnS.1, c1, kw]
          refine up_nat (P := fun b => a < b → ∀ x H', Vw V H' → MinOf (PSt (KRu V m) (nS V) a b) x → RSt H' x → R (d + 5) MO_under (blk MO_under 4) [va 71, vi m, vi w, vi a, vi b] [] H' Q) ?_ ?_ (a + 1) ha (Nat.lt_succ_self a) x H' b1 b2 b3
          · intro _ x H' b1 b2 b3
            rw [e_MO_under_4]
            simp only [k_MO_under_4, e_MO_under_5, k_MO_under_5, en_MO_seats, e_MO_seats_0, k_MO_seats_0, rr, sh, Nat.reduceLT, Nat.reduceMul, Int.reduceToNat, Int.reduceGT, Int.reduceGE, Int.reduceNe, true_and, and_true, true_or, or_true, false_or, or_false, and_self, or_self, if_true, if_false, reduceIte, not_true_eq_false, not_false_eq_true, Int.reduceEq, Int.reduceNe, Int.reduceLT, Int.reduceLE, Int.reduceAdd, Int.reduceSub, Int.reduceMul, Int.reduceNeg, Nat.reduceAdd, Nat.reduceLeDiff, Nat.reduceEqDiff, ne_eq, List.length_cons, List.length_nil, Nat.reduceSub, (f b1).1, (f b1).2, hnS.1, Int.le_refl, kw]
            exact ih x H' _ b1 (b2.cg fun z => PSt_row _ z) b3
          · intro b hb ihb hab x H' b1 b2 b3
            have c2 : ¬ (nS V : Int) ≤ b := by clear ih ihb b2 b3 hQ kw; omega
            have kb := w32_s (n := b) (by clear ih ihb b2 b3 hQ kw; omega)
            rw [e_MO_under_4]
            simp only [k_MO_under_4, en_MO_seats, e_MO_seats_0, k_MO_seats_0, rr, sh, Nat.reduceLT, Nat.reduceMul, Int.reduceToNat, Int.reduceGT, Int.reduceGE, Int.reduceNe, true_and, and_true, true_or, or_true, false_or, or_false, and_self, or_self, if_true, if_false, reduceIte, not_true_eq_false, not_false_eq_true, Int.reduceEq, Int.reduceNe, Int.reduceLT, Int.reduceLE, Int.reduceAdd, Int.reduceSub, Int.reduceMul, Int.reduceNeg, Nat.reduceAdd, Nat.reduceLeDiff, Nat.reduceEqDiff, ne_eq, List.length_cons, List.length_nil, Nat.reduceSub, (f b1).1, (f b1).2, hnS.1, c2]
            refine c_underBy (d := d) hM b1 hab hb hm1 hm b2 b3 fun H2 x2 e1 e2 e3 => ?_
            simp only [rr, sh, Nat.reduceLT, Nat.reduceMul, Int.reduceToNat, Int.reduceGT, Int.reduceGE, Int.reduceNe, true_and, and_true, true_or, or_true, false_or, or_false, and_self, or_self, if_true, if_false, reduceIte, not_true_eq_false, not_false_eq_true, Int.reduceEq, Int.reduceNe, Int.reduceLT, Int.reduceLE, Int.reduceAdd, Int.reduceSub, Int.reduceMul, Int.reduceNeg, Nat.reduceAdd, Nat.reduceLeDiff, Nat.reduceEqDiff, ne_eq, List.length_cons, List.length_nil, Nat.reduceSub, kb]
            exact ihb (Nat.lt_succ_of_lt hab) x2 H2 e1 (e2.cg fun z => PSt_step (KRu V m) hab hb z) e3
      · have h3' : ¬ (2 : Int) ≤ nS V := by omega
        simp only [en_MO_under, e_MO_under_0, k_MO_under_0, e_MO_under_1, k_MO_under_1, en_MO_seats, e_MO_seats_0, k_MO_seats_0, rr, sh, Nat.reduceLT, Nat.reduceMul, Int.reduceToNat, Int.reduceGT, Int.reduceGE, Int.reduceNe, true_and, and_true, true_or, or_true, false_or, or_false, and_self, or_self, if_true, if_false, reduceIte, not_true_eq_false, not_false_eq_true, Int.reduceEq, Int.reduceNe, Int.reduceLT, Int.reduceLE, Int.reduceAdd, Int.reduceSub, Int.reduceMul, Int.reduceNeg, Nat.reduceAdd, Nat.reduceLeDiff, Nat.reduceEqDiff, ne_eq, List.length_cons, List.length_nil, Nat.reduceSub, q_isIn, h1, h2, (f hH).1, (f hH).2, hnS.1, h3']
        exact hno (fun z => h3 z.2.2) H hH
    · simp only [en_MO_under, e_MO_under_0, k_MO_under_0, e_MO_under_1, k_MO_under_1, rr, sh, Nat.reduceLT, Nat.reduceMul, Int.reduceToNat, Int.reduceGT, Int.reduceGE, Int.reduceNe, true_and, and_true, true_or, or_true, false_or, or_false, and_self, or_self, if_true, if_false, reduceIte, not_true_eq_false, not_false_eq_true, Int.reduceEq, Int.reduceNe, Int.reduceLT, Int.reduceLE, Int.reduceAdd, Int.reduceSub, Int.reduceMul, Int.reduceNeg, Nat.reduceAdd, Nat.reduceLeDiff, Nat.reduceEqDiff, ne_eq, List.length_cons, List.length_nil, Nat.reduceSub, q_isIn, h1, h2]
      exact hno (fun z => h2 z.2.1) H hH
  · simp only [en_MO_under, e_MO_under_0, k_MO_under_0, e_MO_under_1, k_MO_under_1, rr, sh, Nat.reduceLT, Nat.reduceMul, Int.reduceToNat, Int.reduceGT, Int.reduceGE, Int.reduceNe, true_and, and_true, true_or, or_true, false_or, or_false, and_self, or_self, if_true, if_false, reduceIte, not_true_eq_false, not_false_eq_true, Int.reduceEq, Int.reduceNe, Int.reduceLT, Int.reduceLE, Int.reduceAdd, Int.reduceSub, Int.reduceMul, Int.reduceNeg, Nat.reduceAdd, Nat.reduceLeDiff, Nat.reduceEqDiff, ne_eq, List.length_cons, List.length_nil, Nat.reduceSub, q_isIn, h1]
    exact hno (fun z => h1 z.1) H hH
end US
