/-! under: the class; the pair -/
def CSt (H : Hp) (x p0 : Int) : Prop := (x = -1 ∧ H 54 3 = -1) ∨ (∃ v s a b : Int, x = keyU v s (12 * a + b) ∧ 0 ≤ v ∧ (0 ≤ s ∧ s < 100000) ∧ (0 ≤ a ∧ a < 12) ∧ (0 ≤ b ∧ b < 12) ∧ 12 * a + b ≤ p0 ∧ H 54 3 = v ∧ H 54 5 = s ∧ H 54 6 = a ∧ H 54 7 = b)
theorem CSt.mono {H : Hp} {x p q : Int} (h : CSt H x p) (hpq : p ≤ q) : CSt H x q := by
  rcases h with h | ⟨v, s, a, b, h1, h2, h3, h4, h5, h6, h7⟩
  · exact Or.inl h
  · exact Or.inr ⟨v, s, a, b, h1, h2, h3, h4, h5, Int.le_trans h6 hpq, h7⟩
theorem CSt.put {H : Hp} {v s a b : Int} (h1 : 0 ≤ v) (h2 : 0 ≤ s ∧ s < 100000) (h3 : 0 ≤ a ∧ a < 12) (h4 : 0 ≤ b ∧ b < 12) : CSt (hs (hs (hs (hs H 54 3 v) 54 5 s) 54 6 a) 54 7 b) (keyU v s (12 * a + b)) (12 * a + b) := Or.inr ⟨v, s, a, b, rfl, h1, h2, h3, h4, Int.le_refl _, by rw [hs2 (by decide), hs2 (by decide), hs2 (by decide)]; exact hs_same, by rw [hs2 (by decide), hs2 (by decide)]; exact hs_same, by rw [hs2 (by decide)]; exact hs_same, hs_same⟩
theorem mxI_front {f : Int → Int} {lo : Int} {n : Nat} : mxI f lo (n + 1) = max (mxI f (lo + 1) n) (f lo) := by
  apply Int.le_antisymm
  · refine mxI_le.mpr ⟨Int.le_trans (mxI_0 f (lo + 1) n) (Int.le_max_left _ _), fun i hi => ?_⟩
    cases i with
    | zero => rw [show lo + ((0 : Nat) : Int) = lo by omega]; exact Int.le_max_right _ _
    | succ i =>
      rw [show lo + ((i + 1 : Nat) : Int) = lo + 1 + i by omega]
      exact Int.le_trans (mxI_at (f := f) (by omega)) (Int.le_max_left _ _)
  · refine Int.max_le.mpr ⟨mxI_le.mpr ⟨mxI_0 f lo (n + 1), fun i hi => ?_⟩, ?_⟩
    · rw [show lo + 1 + (i : Int) = lo + ((i + 1 : Nat) : Int) by omega]
      exact mxI_at (f := f) (by omega)
    · have := mxI_at (f := f) (lo := lo) (n := n + 1) (i := 0) (by omega)
      rwa [show lo + ((0 : Nat) : Int) = lo by omega] at this
/-- swings of tens are told -/
def SwT (V H : Hp) (n : Nat) : Prop := ∀ k : Nat, k < ntn V n → H 56 k = w64 (sww V 1 (sdV V) ((ftn V + k) * 10)) ∧ H 57 k = mxI (fun t => swA V (sdV V) (t * 10)) (ftn V) k
section UC
variable {d : Nat} {V H : Hp} {Q : AV → Hp → Prop}
theorem ntn_b {n : Nat} (h0 : 0 ≤ V 71 47 ∧ V 71 47 ≤ 9999) (hn1 : 1 ≤ n) (hn : n ≤ 100) : 1 ≤ ntn V n ∧ ntn V n ≤ 11 ∧ ftn V + ntn V n = (V 71 47 + n) / 10 + 1 ∧ 0 ≤ ftn V ∧ ftn V ≤ 1000 := by unfold ntn ftn; omega
set_option maxRecDepth 20000 in
theorem c_sail (hI : Inq V) (hH : Vw V H) {n : Nat} (hn1 : 1 ≤ n) (hn : n ≤ 100) (hQ : ∀ H', Vw V H' → SwT V H' n → Q vu H') : CC (d + 4) RA_sailAsTheySit [va 54, va 4, vi n] H Q := by
  have ht := hI.crew.stroke
  obtain ⟨t1, t2, t3, t4, t5⟩ := ntn_b ht hn1 hn
  have w1 : w32 (w32 ((V 71 47 + n) / 10 - ftn V) + 1) = ntn V n := by
    rw [w32_id (x := (V 71 47 + n) / 10 - ftn V) (by clear hQ; omega) (by clear hQ; omega), w32_id (by clear hQ; omega) (by clear hQ; omega)]; clear hQ; omega
  have p1 : V 54 1 = 56 := hI.ptr (54, 1, 56) (by decide +kernel)
  have p2 : V 54 2 = 57 := hI.ptr (54, 2, 57) (by decide +kernel)
  simp only [en_RA_sailAsTheySit, e_RA_sailAsTheySit_0, k_RA_sailAsTheySit_0, rr, sh, Nat.reduceLT, Nat.reduceMul, Int.reduceToNat, Int.reduceGT, Int.reduceGE, Int.reduceNe, true_and, and_true, true_or, or_true, false_or, or_false, and_self, or_self, if_true, if_false, reduceIte, not_true_eq_false, not_false_eq_true, Int.reduceEq, Int.reduceNe, Int.reduceLT, Int.reduceLE, Int.reduceAdd, Int.reduceSub, Int.reduceMul, Int.reduceNeg, Nat.reduceAdd, Nat.reduceLeDiff, Nat.reduceEqDiff, ne_eq, List.length_cons, List.length_nil, Nat.reduceSub, q_lastTen hI hH (show n ≤ 300 by omega), q_firstTen hI hH, w1]
  refine up_nat (P := fun k => ∀ H', Vw V H' → (∀ j : Nat, j < k → H' 56 j = w64 (sww V 1 (sdV V) ((ftn V + j) * 10)) ∧ H' 57 j = mxI (fun t => swA V (sdV V) (t * 10)) (ftn V) j) → R (d + 4) RA_sailAsTheySit (blk RA_sailAsTheySit 1) [va 54, va 4, vi n, vi (ntn V n), vl (mxI (fun t => swA V (sdV V) (t * 10)) (ftn V) k), vu, vi k] [] H' Q) ?_ ?_ 0 (Nat.zero_le (ntn V n)) H hH (fun j hj => absurd hj (Nat.not_lt_zero j))
  · intro H' b1 b2
    rw [e_RA_sailAsTheySit_1]
    simp only [k_RA_sailAsTheySit_1, e_RA_sailAsTheySit_2, k_RA_sailAsTheySit_2, rr, sh, Nat.reduceLT, Nat.reduceMul, Int.reduceToNat, Int.reduceGT, Int.reduceGE, Int.reduceNe, true_and, and_true, true_or, or_true, false_or, or_false, and_self, or_self, if_true, if_false, reduceIte, not_true_eq_false, not_false_eq_true, Int.reduceEq, Int.reduceNe, Int.reduceLT, Int.reduceLE, Int.reduceAdd, Int.reduceSub, Int.reduceMul, Int.reduceNeg, Nat.reduceAdd, Nat.reduceLeDiff, Nat.reduceEqDiff, ne_eq, List.length_cons, List.length_nil, Nat.reduceSub, Int.le_refl]
    exact hQ H' b1 b2
  · intro k hk ih H' b1 b2
    have c1 : ¬ (ntn V n : Int) ≤ k := by clear ih b2 hQ w1; omega
    have c2 : ¬ (32 : Int) ≤ k := by clear ih b2 hQ w1; omega
    have j1 : 0 ≤ (k : Int) ∧ (k : Int) < 32 := by clear ih b2 hQ w1; omega
    have kw := w32_s (n := k) (by clear ih b2 hQ w1; omega)
    have w2 : w32 (w32 (ftn V + k) * 10) = (ftn V + k) * 10 := by rw [w32_id (x := ftn V + k) (by clear ih b2 hQ w1 kw; omega) (by clear ih b2 hQ w1 kw; omega), w32_id (by clear ih b2 hQ w1 kw; omega) (by clear ih b2 hQ w1 kw; omega)]
    have hsw : ∀ {Q : AV → Hp → Prop}, CC (d + 3) CW_swingAt [va 4, vi 1, vi ((ftn V + k) * 10)] H' Q = Q (vl (w64 (sww V 1 (sdV V) ((ftn V + k) * 10)))) H' := fun {Q} => q_swingAt (q := 1) hI b1 (by decide) (by clear ih b2 hQ w1 kw w2; omega) (by clear ih b2 hQ w1 kw w2; omega)
    have q1 : H' 54 1 = 56 := (b1 54 1 rfl).trans p1
    have q2 : ∀ v, hs H' 56 k v 54 2 = 57 := fun v => (hs_ne' (by decide)).trans ((b1 54 2 rfl).trans p2)
    have q3 : ∀ v u, hs (hs H' 56 k v) 57 k u 54 1 = 56 := fun v u => (hs_ne' (by decide)).trans ((hs_ne' (by decide)).trans q1)
    have q4 : ∀ v u, hs (hs H' 56 k v) 57 k u 56 k = v := fun v u => (hs_ne' (by decide)).trans hs_same
    rw [e_RA_sailAsTheySit_1]
    simp only [k_RA_sailAsTheySit_1, rr, sh, Nat.reduceLT, Nat.reduceMul, Int.reduceToNat, Int.reduceGT, Int.reduceGE, Int.reduceNe, true_and, and_true, true_or, or_true, false_or, or_false, and_self, or_self, if_true, if_false, reduceIte, not_true_eq_false, not_false_eq_true, Int.reduceEq, Int.reduceNe, Int.reduceLT, Int.reduceLE, Int.reduceAdd, Int.reduceSub, Int.reduceMul, Int.reduceNeg, Nat.reduceAdd, Nat.reduceLeDiff, Nat.reduceEqDiff, ne_eq, List.length_cons, List.length_nil, Nat.reduceSub, c1, q1, c2, q_firstTen hI b1, w2, hsw, j1, q2, q3, q4, q_absL, q_maxL, kw]
    refine ih _ ((b1.hs (c := 56) rfl).hs (c := 57) rfl) fun j hj => ?_
    rw [hs_ne' (by decide), hs_at, hs_at]
    by_cases e : j = k
    · subst e; rw [if_pos rfl, if_pos rfl]; exact ⟨rfl, rfl⟩
    · have e' : ¬ (j : Int) = k := fun z => e (Int.ofNat_inj.mp z)
      rw [if_neg e', if_neg e', hs_ne' (by decide)]
      exact b2 j (Nat.lt_of_le_of_ne (Nat.le_of_lt_succ hj) e)
theorem lev_w (a b : Int) (x y : Bool) : w64 ((if x = true then a else w64 (-a)) - (if y = true then b else w64 (-b))) = w64 (sgn x a - sgn y b) := by
  unfold sgn
  cases x <;> cases y <;> simp only [Bool.false_eq_true, if_false, if_true, w64_sl, w64_sr]
set_option maxRecDepth 20000 in
theorem c_tryChange (hI : Inq V) (hH : Vw V H) {a b n : Nat} (hab : a < b) (hb : b < nS V) (hn1 : 1 ≤ n) (hn : n ≤ 100) (hT : SwT V H n) {S : Int → Prop} {x : Int} (hS : MinOf S x) (hR : CSt H x (12 * a + b)) (hQ : ∀ H' x', Vw V H' → SwT V H' n → MinOf (fun z => S z ∨ KCu V n a b z) x' → CSt H' x' (12 * a + b) → Q vu H') : CC (d + 3) RA_tryChange [va 54, va 4, vi n, vi a, vi b] H Q := by
  have hnS := hI.boat.s
  have ht := hI.crew.stroke
  have hst := hI.cc.stroke
  obtain ⟨t1, t2, t3, t4, t5⟩ := ntn_b ht hn1 hn
  have p1 : V 54 1 = 56 := hI.ptr (54, 1, 56) (by decide +kernel)
  have p2 : V 54 2 = 57 := hI.ptr (54, 2, 57) (by decide +kernel)
  have ha : a < nS V := Nat.lt_trans hab hb
  have hne : a ≠ b := Nat.ne_of_lt hab
  have ja : 0 ≤ (a : Int) ∧ (a : Int) < 12 := by omega
  have jb : 0 ≤ (b : Int) ∧ (b : Int) < 12 := by omega
  have w1 : w32 (w32 ((V 71 47 + n) / 10 - ftn V) + 1) = ntn V n := by
    rw [w32_id (x := (V 71 47 + n) / 10 - ftn V) (by clear hQ hR hT hS; omega) (by clear hQ hR hT hS; omega), w32_id (by clear hQ hR hT hS; omega) (by clear hQ hR hT hS; omega)]; clear hQ hR hT hS; omega
  have wm : min (ntn V n : Int) 32 = ntn V n := by clear hQ hR hT hS w1; omega
  have wk : w32 ((ntn V n : Int) - 1) = (ntn V n : Int) - 1 := w32_id (by clear hQ hR hT hS w1; omega) (by clear hQ hR hT hS w1; omega)
  have hla : ∀ {Q : AV → Hp → Prop}, CC (d + 2) CW_leverToSide [va 4, vi 1, vi a] H Q = Q (vl (if (sdV V).testBit a then lvr V 1 a else w64 (-lvr V 1 a))) H := fun {Q} => q_leverToSide (q := 1) hI hH (by decide) ha
  have hlb : ∀ {Q : AV → Hp → Prop}, CC (d + 2) CW_leverToSide [va 4, vi 1, vi b] H Q = Q (vl (if (sdV V).testBit b then lvr V 1 b else w64 (-lvr V 1 b))) H := fun {Q} => q_leverToSide (q := 1) hI hH (by decide) hb
  have q1 : H 54 1 = 56 := (hH 54 1 rfl).trans p1
  have hlev := lev_w (lvr V 1 a) (lvr V 1 b) ((sdV V).testBit a) ((sdV V).testBit b)
  have hlev : w64 ((if (sdV V).testBit a = true then lvr V 1 a else w64 (-lvr V 1 a)) - (if (sdV V).testBit b = true then lvr V 1 b else w64 (-lvr V 1 b))) = w64 (ssl V a - ssl V b) := hlev
  simp only [en_RA_tryChange, e_RA_tryChange_0, k_RA_tryChange_0, rr, sh, Nat.reduceLT, Nat.reduceMul, Int.reduceToNat, Int.reduceGT, Int.reduceGE, Int.reduceNe, true_and, and_true, true_or, or_true, false_or, or_false, and_self, or_self, if_true, if_false, reduceIte, not_true_eq_false, not_false_eq_true, Int.reduceEq, Int.reduceNe, Int.reduceLT, Int.reduceLE, Int.reduceAdd, Int.reduceSub, Int.reduceMul, Int.reduceNeg, Nat.reduceAdd, Nat.reduceLeDiff, Nat.reduceEqDiff, ne_eq, List.length_cons, List.length_nil, Nat.reduceSub, q_firstTen hI hH, q_lastTen hI hH (show n ≤ 300 by omega), w1, q1, q_minI, wm, hla, hlb, hlev, wk]
  refine dn_nat (P := fun m => m ≤ ntn V n → ∀ x H' (y1 y2 y3 y4 y5 y6 : AV), Vw V H' → SwT V H' n → MinOf (fun z => S z ∨ ∃ k, m ≤ k ∧ k < ntn V n ∧ z = keyU (wU V a b n k) (stU V k) (12 * a + b)) x → CSt H' x (12 * a + b) → R (d + 3) RA_tryChange (blk RA_tryChange 1) [va 54, va 4, vi n, vi a, vi b, vi (ftn V), vi (ntn V n), vl (w64 (ssl V a - ssl V b)), vu, vl (mxI (fun t => swA (swp V a b) (sdV V) (t * 10)) (ftn V + m) (ntn V n - m)), vu, vi ((m : Int) - 1), y1, y2, y3, y4, y5, y6] [] H' Q) (lo := 0) ?_ ?_ (ntn V n) (Nat.zero_le _) (Nat.le_refl _) x H vu vu vu vu vu vu hH hT (hS.cg fun z => ⟨fun h => Or.inl h, fun h => h.elim id (fun ⟨i, i1, i2, _⟩ => absurd (Nat.lt_of_le_of_lt i1 i2) (Nat.lt_irrefl _))⟩) hR |> fun z => by rw [Nat.sub_self] at z; exact z
  · intro _ x H' y1 y2 y3 y4 y5 y6 b1 b2 b3 b4
    have c1 : ((0 : Nat) : Int) - 1 < 0 := by decide
    rw [e_RA_tryChange_1]
    simp only [k_RA_tryChange_1, e_RA_tryChange_4, k_RA_tryChange_4, rr, sh, Nat.reduceLT, Nat.reduceMul, Int.reduceToNat, Int.reduceGT, Int.reduceGE, Int.reduceNe, true_and, and_true, true_or, or_true, false_or, or_false, and_self, or_self, if_true, if_false, reduceIte, not_true_eq_false, not_false_eq_true, Int.reduceEq, Int.reduceNe, Int.reduceLT, Int.reduceLE, Int.reduceAdd, Int.reduceSub, Int.reduceMul, Int.reduceNeg, Nat.reduceAdd, Nat.reduceLeDiff, Nat.reduceEqDiff, ne_eq, List.length_cons, List.length_nil, Nat.reduceSub, c1]
    refine hQ H' x b1 b2 (b3.cg fun z => ?_) b4
    constructor
    · rintro (h | ⟨k, -, k2, k3⟩)
      · exact Or.inl h
      · exact Or.inr ⟨k, k2, k3⟩
    · rintro (h | ⟨k, k2, k3⟩)
      · exact Or.inl h
      · exact Or.inr ⟨k, Nat.zero_le k, k2, k3⟩
  · intro m hm ih hmn x H' y1 y2 y3 y4 y5 y6 b1 b2 b3 b4
    obtain ⟨k, rfl⟩ : ∃ k, m = k + 1 := ⟨m - 1, by clear ih b2 b3 b4 hQ w1 wm wk hlev; omega⟩
    have ek : ((k + 1 : Nat) : Int) - 1 = k := by clear ih b2 b3 b4 hQ w1 wm wk hlev; omega
    rw [ek]
    have c1 : ¬ (k : Int) < 0 := by clear ih b2 b3 b4 hQ w1 wm wk hlev; omega
    have j1 : 0 ≤ (k : Int) ∧ (k : Int) < 32 := by clear ih b2 b3 b4 hQ w1 wm wk hlev; omega
    have kw : w32 ((k : Int) + -1) = (k : Int) - 1 := w32_id (by clear ih b2 b3 b4 hQ w1 wm wk hlev; omega) (by clear ih b2 b3 b4 hQ w1 wm wk hlev; omega)
    have w2 : w32 (w32 (ftn V + k) * 10) = (ftn V + k) * 10 := by rw [w32_id (x := ftn V + k) (by clear ih b2 b3 b4 hQ w1 wm wk hlev kw; omega) (by clear ih b2 b3 b4 hQ w1 wm wk hlev kw; omega), w32_id (by clear ih b2 b3 b4 hQ w1 wm wk hlev kw; omega) (by clear ih b2 b3 b4 hQ w1 wm wk hlev kw; omega)]
    have i1 : 0 ≤ (ftn V + (k : Int)) * 10 := by clear ih b2 b3 b4 hQ w1 wm wk hlev kw w2; omega
    have i2 : (ftn V + (k : Int)) * 10 ≤ 100000 := by clear ih b2 b3 b4 hQ w1 wm wk hlev kw w2; omega
    have hkn : k < ntn V n := hmn
    have fa := frc_rng hI.m (k := a) (t := (ftn V + (k : Int)) * 10) (by clear ih b2 b3 b4 hQ w1 wm wk hlev kw w2; omega) i1
    have fb := frc_rng hI.m (k := b) (t := (ftn V + (k : Int)) * 10) (by clear ih b2 b3 b4 hQ w1 wm wk hlev kw w2; omega) i1
    have w4 : w32 (frc V b ((ftn V + (k : Int)) * 10) - frc V a ((ftn V + (k : Int)) * 10)) = frc V b ((ftn V + (k : Int)) * 10) - frc V a ((ftn V + (k : Int)) * 10) := w32_id (by clear ih b2 b3 b4 hQ w1 wm wk hlev kw w2; omega) (by clear ih b2 b3 b4 hQ w1 wm wk hlev kw w2; omega)
    have q1 : H' 54 1 = 56 := (b1 54 1 rfl).trans p1
    have q2 : H' 54 2 = 57 := (b1 54 2 rfl).trans p2
    have q3 : H' 4 3 = V 71 47 := (b1 4 3 rfl).trans hst
    obtain ⟨s1, s2⟩ := b2 k hkn
    have w5 : w32 (V 71 47 + 1) = V 71 47 + 1 := w32_id (by clear ih b2 b3 b4 hQ w1 wm wk hlev kw w2 w4 s1 s2; omega) (by clear ih b2 b3 b4 hQ w1 wm wk hlev kw w2 w4 s1 s2; omega)
    have hbh : max (mxI (fun t => swA (swp V a b) (sdV V) (t * 10)) (ftn V + ((k + 1 : Nat) : Int)) (ntn V n - (k + 1))) (abL (w64 (w64 (sww V 1 (sdV V) ((ftn V + k) * 10)) + w64 ((frc V b ((ftn V + (k : Int)) * 10) - frc V a ((ftn V + (k : Int)) * 10)) * w64 (ssl V a - ssl V b))))) = mxI (fun t => swA (swp V a b) (sdV V) (t * 10)) (ftn V + k) (ntn V n - k) := by
      rw [w64_mr, w64_al, w64_ar, ← sww_swp ha hb hne, show ntn V n - k = ntn V n - (k + 1) + 1 by clear ih b2 b3 b4 hQ w1 wm wk hlev kw w2 w4 s1 s2 w5; omega, mxI_front, show ftn V + ((k + 1 : Nat) : Int) = ftn V + k + 1 by clear ih b2 b3 b4 hQ w1 wm wk hlev kw w2 w4 s1 s2 w5; omega]
      rfl
    have hmo : max (mxI (fun t => swA V (sdV V) (t * 10)) (ftn V) k) (mxI (fun t => swA (swp V a b) (sdV V) (t * 10)) (ftn V + k) (ntn V n - k)) = wU V a b n k := rfl
    have hso : max ((ftn V + (k : Int)) * 10) (V 71 47 + 1) = stU V k := rfl
    have hs0 : 0 ≤ stU V k ∧ stU V k < 100000 := by unfold stU; clear ih b2 b3 b4 hQ w1 wm wk hlev kw w2 w4 s1 s2 w5 hbh hmo hso; omega
    have hw0 := wU_0 V a b n k
    have hkey : 0 ≤ keyU (wU V a b n k) (stU V k) (12 * a + b) := by unfold keyU; clear ih b2 b3 b4 hQ w1 wm wk hlev kw w2 w4 s1 s2 w5 hbh hmo hso; omega
    have hset : ∀ x', MinOf (fun z => (S z ∨ ∃ i, k + 1 ≤ i ∧ i < ntn V n ∧ z = keyU (wU V a b n i) (stU V i) (12 * a + b)) ∨ z = keyU (wU V a b n k) (stU V k) (12 * a + b)) x' → MinOf (fun z => S z ∨ ∃ i, k + 1 - 1 ≤ i ∧ i < ntn V n ∧ z = keyU (wU V a b n i) (stU V i) (12 * a + b)) x' := fun x' h => h.cg fun z => by
      constructor
      · rintro ((h | ⟨i, i1, i2, i3⟩) | h)
        · exact Or.inl h
        · exact Or.inr ⟨i, Nat.le_of_succ_le i1, i2, i3⟩
        · exact Or.inr ⟨k, Nat.le_refl _, hkn, h⟩
      · rintro (h | ⟨i, i1, i2, i3⟩)
        · exact Or.inl (Or.inl h)
        · by_cases e : i = k
          · subst e; exact Or.inr i3
          · exact Or.inl (Or.inr ⟨i, Nat.lt_of_le_of_ne i1 (fun z => e z.symm), i2, i3⟩)
    have hstp := b3.step hkey
    have hput : CSt (hs (hs (hs (hs H' 54 3 (wU V a b n k)) 54 5 (stU V k)) 54 6 a) 54 7 b) (keyU (wU V a b n k) (stU V k) (12 * a + b)) (12 * a + b) := CSt.put hw0 hs0 ja jb
    have hTput : SwT V (hs (hs (hs (hs H' 54 3 (wU V a b n k)) 54 5 (stU V k)) 54 6 a) 54 7 b) n := fun j hj => by
      rw [hs_ne' (by decide), hs_ne' (by decide), hs_ne' (by decide), hs_ne' (by decide), hs_ne' (by decide), hs_ne' (by decide), hs_ne' (by decide), hs_ne' (by decide)]
      exact b2 j hj
    have ih1 : mnU x (keyU (wU V a b n k) (stU V k) (12 * a + b)) = keyU (wU V a b n k) (stU V k) (12 * a + b) → ∀ y1 y2 y3 y4 y5 y6, R (d + 3) RA_tryChange (blk RA_tryChange 1) [va 54, va 4, vi n, vi a, vi b, vi (ftn V), vi (ntn V n), vl (w64 (ssl V a - ssl V b)), vu, vl (mxI (fun t => swA (swp V a b) (sdV V) (t * 10)) (ftn V + k) (ntn V n - k)), vu, vi ((k : Int) - 1), y1, y2, y3, y4, y5, y6] [] (hs (hs (hs (hs H' 54 3 (wU V a b n k)) 54 5 (stU V k)) 54 6 a) 54 7 b) Q := fun he y1 y2 y3 y4 y5 y6 => by
      rw [he] at hstp
      exact ih (Nat.le_of_lt hkn) _ _ _ _ _ _ _ _ ((((b1.hs (c := 54) (j := 3) rfl).hs (c := 54) (j := 5) rfl).hs (c := 54) (j := 6) rfl).hs (c := 54) (j := 7) rfl) hTput (hset _ hstp) hput
    have ih2 : mnU x (keyU (wU V a b n k) (stU V k) (12 * a + b)) = x → ∀ y1 y2 y3 y4 y5 y6, R (d + 3) RA_tryChange (blk RA_tryChange 1) [va 54, va 4, vi n, vi a, vi b, vi (ftn V), vi (ntn V n), vl (w64 (ssl V a - ssl V b)), vu, vl (mxI (fun t => swA (swp V a b) (sdV V) (t * 10)) (ftn V + k) (ntn V n - k)), vu, vi ((k : Int) - 1), y1, y2, y3, y4, y5, y6] [] H' Q := fun he y1 y2 y3 y4 y5 y6 => by
      rw [he] at hstp
      exact ih (Nat.le_of_lt hkn) _ _ _ _ _ _ _ _ b1 b2 (hset _ hstp) b4
    clear ih hset hstp hput hTput hQ
    rw [e_RA_tryChange_1]
    rcases b4 with ⟨x1, x2⟩ | ⟨v, s, a', b', x1, xv, xs, xa, xb, xp, z3, z5, z6, z7⟩
    · have he : mnU x (keyU (wU V a b n k) (stU V k) (12 * a + b)) = keyU (wU V a b n k) (stU V k) (12 * a + b) := by unfold mnU; rw [if_pos (Or.inl x1)]
      simp only [k_RA_tryChange_1, e_RA_tryChange_2, k_RA_tryChange_2, e_RA_tryChange_3, k_RA_tryChange_3, rr, sh, Nat.reduceLT, Nat.reduceMul, Int.reduceToNat, Int.reduceGT, Int.reduceGE, Int.reduceNe, true_and, and_true, true_or, or_true, false_or, or_false, and_self, or_self, if_true, if_false, reduceIte, not_true_eq_false, not_false_eq_true, Int.reduceEq, Int.reduceNe, Int.reduceLT, Int.reduceLE, Int.reduceAdd, Int.reduceSub, Int.reduceMul, Int.reduceNeg, Nat.reduceAdd, Nat.reduceLeDiff, Nat.reduceEqDiff, ne_eq, List.length_cons, List.length_nil, Nat.reduceSub, c1, w2, q_forceIn hI b1 hb i1 i2, q_forceIn hI b1 ha i1 i2, w4, q1, q2, j1, s1, s2, q_absL, q_maxL, hbh, hmo, q3, w5, q_maxI, hso, c3_eq, c3_lt, x2, kw]
      exact ih1 he _ _ _ _ _ _
    · have xn : ¬ v = -1 := by clear x1 ih1 ih2 hkey w1 wm wk hlev kw w2 w4 s1 s2 w5 hbh hmo hso; omega
      have hx1 : ¬ x = -1 := by rw [x1]; unfold keyU; clear x1 ih1 ih2 hkey w1 wm wk hlev kw w2 w4 s1 s2 w5 hbh hmo hso; omega
      by_cases a1 : wU V a b n k < v
      · have he : mnU x (keyU (wU V a b n k) (stU V k) (12 * a + b)) = keyU (wU V a b n k) (stU V k) (12 * a + b) := by
          unfold mnU; rw [if_pos (Or.inr (by rw [x1]; unfold keyU; clear x1 ih1 ih2 hkey w1 wm wk hlev kw w2 w4 s1 s2 w5 hbh hmo hso; omega))]
        simp only [k_RA_tryChange_1, e_RA_tryChange_2, k_RA_tryChange_2, e_RA_tryChange_3, k_RA_tryChange_3, rr, sh, Nat.reduceLT, Nat.reduceMul, Int.reduceToNat, Int.reduceGT, Int.reduceGE, Int.reduceNe, true_and, and_true, true_or, or_true, false_or, or_false, and_self, or_self, if_true, if_false, reduceIte, not_true_eq_false, not_false_eq_true, Int.reduceEq, Int.reduceNe, Int.reduceLT, Int.reduceLE, Int.reduceAdd, Int.reduceSub, Int.reduceMul, Int.reduceNeg, Nat.reduceAdd, Nat.reduceLeDiff, Nat.reduceEqDiff, ne_eq, List.length_cons, List.length_nil, Nat.reduceSub, c1, w2, q_forceIn hI b1 hb i1 i2, q_forceIn hI b1 ha i1 i2, w4, q1, q2, j1, s1, s2, q_absL, q_maxL, hbh, hmo, q3, w5, q_maxI, hso, c3_eq, c3_lt, z3, xn, a1, kw]
        exact ih1 he _ _ _ _ _ _
      · by_cases a2 : wU V a b n k = v
        · by_cases a3 : s ≤ stU V k
          · have he : mnU x (keyU (wU V a b n k) (stU V k) (12 * a + b)) = x := by
              unfold mnU; rw [if_neg (by rw [x1]; unfold keyU; clear x1 ih1 ih2 hkey w1 wm wk hlev kw w2 w4 s1 s2 w5 hbh hmo hso; omega)]
            subst a2
            simp only [k_RA_tryChange_1, e_RA_tryChange_2, k_RA_tryChange_2, e_RA_tryChange_3, k_RA_tryChange_3, rr, sh, Nat.reduceLT, Nat.reduceMul, Int.reduceToNat, Int.reduceGT, Int.reduceGE, Int.reduceNe, true_and, and_true, true_or, or_true, false_or, or_false, and_self, or_self, if_true, if_false, reduceIte, not_true_eq_false, not_false_eq_true, Int.reduceEq, Int.reduceNe, Int.reduceLT, Int.reduceLE, Int.reduceAdd, Int.reduceSub, Int.reduceMul, Int.reduceNeg, Nat.reduceAdd, Nat.reduceLeDiff, Nat.reduceEqDiff, ne_eq, List.length_cons, List.length_nil, Nat.reduceSub, c1, w2, q_forceIn hI b1 hb i1 i2, q_forceIn hI b1 ha i1 i2, w4, q1, q2, j1, s1, s2, q_absL, q_maxL, hbh, hmo, q3, w5, q_maxI, hso, c3_eq, c3_lt, z3, z5, xn, a1, a3, kw]
            exact ih2 he _ _ _ _ _ _
          · have he : mnU x (keyU (wU V a b n k) (stU V k) (12 * a + b)) = keyU (wU V a b n k) (stU V k) (12 * a + b) := by
              unfold mnU; rw [if_pos (Or.inr (by rw [x1]; unfold keyU; clear x1 ih1 ih2 hkey w1 wm wk hlev kw w2 w4 s1 s2 w5 hbh hmo hso; omega))]
            subst a2
            simp only [k_RA_tryChange_1, e_RA_tryChange_2, k_RA_tryChange_2, e_RA_tryChange_3, k_RA_tryChange_3, rr, sh, Nat.reduceLT, Nat.reduceMul, Int.reduceToNat, Int.reduceGT, Int.reduceGE, Int.reduceNe, true_and, and_true, true_or, or_true, false_or, or_false, and_self, or_self, if_true, if_false, reduceIte, not_true_eq_false, not_false_eq_true, Int.reduceEq, Int.reduceNe, Int.reduceLT, Int.reduceLE, Int.reduceAdd, Int.reduceSub, Int.reduceMul, Int.reduceNeg, Nat.reduceAdd, Nat.reduceLeDiff, Nat.reduceEqDiff, ne_eq, List.length_cons, List.length_nil, Nat.reduceSub, c1, w2, q_forceIn hI b1 hb i1 i2, q_forceIn hI b1 ha i1 i2, w4, q1, q2, j1, s1, s2, q_absL, q_maxL, hbh, hmo, q3, w5, q_maxI, hso, c3_eq, c3_lt, z3, z5, xn, a1, a3, kw]
            exact ih1 he _ _ _ _ _ _
        · have he : mnU x (keyU (wU V a b n k) (stU V k) (12 * a + b)) = x := by
            unfold mnU; rw [if_neg (by rw [x1]; unfold keyU; clear x1 ih1 ih2 hkey w1 wm wk hlev kw w2 w4 s1 s2 w5 hbh hmo hso; omega)]
          simp only [k_RA_tryChange_1, e_RA_tryChange_2, k_RA_tryChange_2, e_RA_tryChange_3, k_RA_tryChange_3, rr, sh, Nat.reduceLT, Nat.reduceMul, Int.reduceToNat, Int.reduceGT, Int.reduceGE, Int.reduceNe, true_and, and_true, true_or, or_true, false_or, or_false, and_self, or_self, if_true, if_false, reduceIte, not_true_eq_false, not_false_eq_true, Int.reduceEq, Int.reduceNe, Int.reduceLT, Int.reduceLE, Int.reduceAdd, Int.reduceSub, Int.reduceMul, Int.reduceNeg, Nat.reduceAdd, Nat.reduceLeDiff, Nat.reduceEqDiff, ne_eq, List.length_cons, List.length_nil, Nat.reduceSub, c1, w2, q_forceIn hI b1 hb i1 i2, q_forceIn hI b1 ha i1 i2, w4, q1, q2, j1, s1, s2, q_absL, q_maxL, hbh, hmo, q3, w5, q_maxI, hso, c3_eq, c3_lt, z3, xn, a1, a2, kw]
          exact ih2 he _ _ _ _ _ _
end UC
