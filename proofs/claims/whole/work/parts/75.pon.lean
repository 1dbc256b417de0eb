/-! on: the pair -/
def sdN (V : Hp) : Nat → Nat
  | 0 => 0
  | k + 1 => sdN V k ||| (rgt V k).toNat * 2 ^ k
def toM (a b : Int) : Bool := if a = 107 then true else if a = 71 then (decide (b = 1) || decide (b = 47) || decide (b = 48) || decide (b = 49) || decide (b = 55)) else false
/-- the reference's crew behind an image -/
def tkM (V H : Hp) : Prop := Fx toM V H ∧ H 71 1 = 0 ∧ H 71 47 = 256 * bt V 0 + bt V 1 ∧ H 71 48 = hdS V 8 ∧ H 71 49 = (sdN V (nS V) : Int) ∧ H 71 55 = 0 ∧ ∀ k : Nat, k < 12 → H 107 k = if k < nS V then who V k - 1 else V 107 k
theorem sdN_ok {V : Hp} {n : Nat} (h0 : ∀ k, k < n → 0 ≤ rgt V k) (h : okS V n) : sdN V n < 2 ^ n ∧ ∀ j, j < n → (sdN V n).testBit j = decide (rgt V j = 1) := by
  induction n with
  | zero => exact ⟨Nat.zero_lt_one, fun j hj => absurd hj (Nat.not_lt_zero j)⟩
  | succ n ih =>
    obtain ⟨i1, i2⟩ := ih (fun k hk => h0 k (Nat.lt_succ_of_lt hk)) (fun k hk => h k (Nat.lt_succ_of_lt hk))
    have hr := (h n (Nat.lt_succ_self n)).1
    have hr0 := h0 n (Nat.lt_succ_self n)
    have hp := Nat.two_pow_pos n
    show sdN V n ||| (rgt V n).toNat * 2 ^ n < 2 ^ (n + 1) ∧ ∀ j, j < n + 1 → (sdN V n ||| (rgt V n).toNat * 2 ^ n).testBit j = _
    have cs : rgt V n = 0 ∨ rgt V n = 1 := by clear ih i1 i2 h h0; omega
    have hlt : (rgt V n).toNat * 2 ^ n < 2 ^ (n + 1) := by
      rw [Nat.pow_succ]
      rcases cs with e | e <;> rw [e]
      · show 0 * 2 ^ n < _; rw [Nat.zero_mul]; exact Nat.mul_pos hp (by decide)
      · show 1 * 2 ^ n < _; rw [Nat.one_mul]; clear ih i1 i2 h h0; generalize 2 ^ n = y at hp ⊢; omega
    refine ⟨Nat.or_lt_two_pow (Nat.lt_of_lt_of_le i1 (Nat.pow_le_pow_right (by decide) (Nat.le_succ n))) hlt, fun j hj => ?_⟩
    rw [Nat.testBit_or]
    by_cases e : j = n
    · subst e
      rw [Nat.testBit_lt_two_pow i1, Bool.false_or]
      rcases cs with e | e <;> rw [e]
      · show (0 * 2 ^ j).testBit j = _
        rw [Nat.zero_mul, Nat.zero_testBit]; rfl
      · show (1 * 2 ^ j).testBit j = _
        rw [Nat.one_mul, Nat.testBit_two_pow_self]; rfl
    · have e2 : ((rgt V n).toNat * 2 ^ n).testBit j = false := by
        rcases cs with e' | e' <;> rw [e']
        · show (0 * 2 ^ n).testBit j = _
          rw [Nat.zero_mul, Nat.zero_testBit]
        · show (1 * 2 ^ n).testBit j = _
          rw [Nat.one_mul, Nat.testBit_two_pow, decide_eq_false (fun z => e z.symm)]
      rw [e2, Bool.or_false]
      exact i2 j (Nat.lt_of_le_of_ne (Nat.le_of_lt_succ hj) e)
theorem Inm.cg {V H : Hp} (h : Inm V) (hP : Ptr H) (e : ∀ a, 91 ≤ a → a ≤ 107 → H a = V a) (e46 : H 71 46 = V 71 46) (e47 : H 71 47 = V 71 47) (e48 : H 71 48 = V 71 48) (e49 : H 71 49 = V 71 49) (e57 : H 71 57 = V 71 57) : Inm H :=
  ⟨hP, h.boat.cg (fun a h1 h2 => e a h1 (Int.le_trans h2 (by decide))) e46, h.crew.cg (e 91 (by decide) (by decide)) (e 107 (by decide) (by decide)) e47 e48 e49 e57 (e 96 (by decide) (by decide)) (e 97 (by decide) (by decide))⟩
section PO
variable {d : Nat} {V : Hp} {Q : AV → Hp → Prop}
set_option maxRecDepth 20000 in
theorem c_onM (hM : Inm V) (hb : ∀ k : Nat, k < 11 + 2 * nS V → (k : Int) < V 71 1 → 0 ≤ bt V k ∧ bt V k < 256) (hno : ¬ imOk V → Q (vi 0) (hs (hs V 71 1 0) 73 5 (w32 (V 73 5 + 1)))) (hQ : imOk V → ∀ H', tkM V H' → Q (vi 1) H') : CC (d + 3) MO_on [va 71] V Q := by
  have hn := hM.boat.s
  have hP : Ptr (hs V 71 1 0) := by
    have hs : ptL.all (fun q => decide (q.1 ≠ 71) || decide (q.2.1 ≠ 1)) = true := by decide +kernel
    intro q hq
    have := List.all_eq_true.mp hs q hq
    simp only [Bool.or_eq_true, decide_eq_true_eq] at this
    rw [hs2 (fun z => this.elim (fun h => h z.1) (fun h => h z.2))]
    exact hM.ptr q hq
  have hY : Inm (hs V 71 1 0) := hM.cg hP (fun a h1 h2 => hs_ne (by omega)) (hs2 (by decide)) (hs2 (by decide)) (hs2 (by decide)) (hs2 (by decide)) (hs2 (by decide))
  have eS : nS (hs V 71 1 0) = nS V := by unfold nS nN; rw [hs_ne (by decide)]
  have eR : nR (hs V 71 1 0) = nR V := by unfold nR nN; rw [hs_ne (by decide)]
  have eb : bt (hs V 71 1 0) = bt V := by funext k; unfold bt; rw [hs_ne (by decide)]
  have ew : who (hs V 71 1 0) = who V := by funext k; unfold who; rw [hs_ne (by decide)]
  have er : rgt (hs V 71 1 0) = rgt V := by funext k; unfold rgt; rw [hs_ne (by decide)]
  have ei : imN (hs V 71 1 0) (V 71 1) = imOk V := by
    unfold imN imOk okR okS cntW
    rw [eS, eR, eb, ew, er, hs_ne (by decide)]
  have p9 : hs V 71 1 0 71 9 = 73 := hP (71, 9, 73) (by decide +kernel)
  have c73 : hs V 71 1 0 73 = V 73 := hs_ne (by decide)
  have p0 : hs V 71 1 0 71 0 = 72 := hP (71, 0, 72) (by decide +kernel)
  have c72 : hs V 71 1 0 72 = V 72 := hs_ne (by decide)
  by_cases hL : V 71 1 = ((11 + 2 * nS V : Nat) : Int)
  · have hbb : ∀ k : Nat, k < 11 + 2 * nS V → 0 ≤ bt V k ∧ bt V k < 256 := fun k hk => hb k hk (by rw [hL]; exact Int.ofNat_lt.mpr hk)
    simp only [en_MO_on, e_MO_on_0, k_MO_on_0, rr, sh, Nat.reduceLT, Nat.reduceMul, Int.reduceToNat, Int.reduceGT, Int.reduceGE, Int.reduceNe, true_and, and_true, true_or, or_true, false_or, or_false, and_self, or_self, if_true, if_false, reduceIte, not_true_eq_false, not_false_eq_true, Int.reduceEq, Int.reduceNe, Int.reduceLT, Int.reduceLE, Int.reduceAdd, Int.reduceSub, Int.reduceMul, Int.reduceNeg, Nat.reduceAdd, Nat.reduceLeDiff, Nat.reduceEqDiff, ne_eq, List.length_cons, List.length_nil, Nat.reduceSub]
    refine c_isImageM (d := d) hY (fun k hk => by rw [eS] at hk; rw [eb]; exact hbb k hk) (fun z => ?_) (fun z => ?_)
    · simp only [rr, sh, Nat.reduceLT, Nat.reduceMul, Int.reduceToNat, Int.reduceGT, Int.reduceGE, Int.reduceNe, true_and, and_true, true_or, or_true, false_or, or_false, and_self, or_self, if_true, if_false, reduceIte, not_true_eq_false, not_false_eq_true, Int.reduceEq, Int.reduceNe, Int.reduceLT, Int.reduceLE, Int.reduceAdd, Int.reduceSub, Int.reduceMul, Int.reduceNeg, Nat.reduceAdd, Nat.reduceLeDiff, Nat.reduceEqDiff, ne_eq, List.length_cons, List.length_nil, Nat.reduceSub, p9, c73]
      exact hno (by rw [ei] at z; exact z)
    · rw [ei] at z
      have b0 := hbb 0 (by omega)
      have b1 := hbb 1 (by omega)
      have w3 : w32 (w32 (256 * V 72 0) + V 72 1) = 256 * bt V 0 + bt V 1 := by
        show w32 (w32 (256 * bt V 0) + bt V 1) = _
        rw [w32_id (x := 256 * bt V 0) (by omega) (by omega), w32_id (by omega) (by omega)]
      have f : ∀ {H}, Fx toM V H → H 71 0 = 72 ∧ H 72 = V 72 ∧ H 71 29 = 91 ∧ H 91 = V 91 ∧ H 71 50 = 107 := fun {H} h => ⟨(h 71 0 rfl).trans (hM.ptr (71, 0, 72) (by decide +kernel)), h.cell 72 (fun _ => rfl), (h 71 29 rfl).trans (hM.ptr (71, 29, 91) (by decide +kernel)), h.cell 91 (fun _ => rfl), (h 71 50 rfl).trans (hM.ptr (71, 50, 107) (by decide +kernel))⟩
      simp only [e_MO_on_1, k_MO_on_1, rr, sh, Nat.reduceLT, Nat.reduceMul, Int.reduceToNat, Int.reduceGT, Int.reduceGE, Int.reduceNe, true_and, and_true, true_or, or_true, false_or, or_false, and_self, or_self, if_true, if_false, reduceIte, not_true_eq_false, not_false_eq_true, Int.reduceEq, Int.reduceNe, Int.reduceLT, Int.reduceLE, Int.reduceAdd, Int.reduceSub, Int.reduceMul, Int.reduceNeg, Nat.reduceAdd, Nat.reduceLeDiff, Nat.reduceEqDiff, ne_eq, List.length_cons, List.length_nil, Nat.reduceSub, p0, c72, w3]
      refine up_nat (P := fun k => ∀ H', Fx toM V H' → H' 71 1 = 0 → H' 71 47 = 256 * bt V 0 + bt V 1 → H' 71 48 = hdS V k → H' 107 = V 107 → R (d + 3) MO_on (blk MO_on 2) [va 71, vi (V 71 1), vi k] [] H' Q) ?_ ?_ 0 (Nat.zero_le 8) _ (((Fx.rf.hs (c := 71) (j := 1) rfl).hs (c := 71) (j := 47) rfl).hs (c := 71) (j := 48) rfl) ?_ ?_ hs_same ?_
      · intro H' a1 a2 a3 a4 a5
        rw [e_MO_on_2]
        simp only [k_MO_on_2, e_MO_on_3, k_MO_on_3, rr, sh, Nat.reduceLT, Nat.reduceMul, Int.reduceToNat, Int.reduceGT, Int.reduceGE, Int.reduceNe, true_and, and_true, true_or, or_true, false_or, or_false, and_self, or_self, if_true, if_false, reduceIte, not_true_eq_false, not_false_eq_true, Int.reduceEq, Int.reduceNe, Int.reduceLT, Int.reduceLE, Int.reduceAdd, Int.reduceSub, Int.reduceMul, Int.reduceNeg, Nat.reduceAdd, Nat.reduceLeDiff, Nat.reduceEqDiff, ne_eq, List.length_cons, List.length_nil, Nat.reduceSub, Int.le_refl]
        have hr0 : ∀ k, k < nS V → 0 ≤ rgt V k := fun k hk => (hbb (11 + 2 * k) (by omega)).1
        refine up_nat (P := fun k => ∀ H', Fx toM V H' → H' 71 1 = 0 → H' 71 47 = 256 * bt V 0 + bt V 1 → H' 71 48 = hdS V 8 → H' 71 49 = (sdN V k : Int) → (∀ q : Nat, q < 12 → H' 107 q = if q < k then who V q - 1 else V 107 q) → R (d + 3) MO_on (blk MO_on 4) [va 71, vi (V 71 1), vi k] [] H' Q) ?_ ?_ 0 (Nat.zero_le (nS V)) _ (a1.hs (c := 71) (j := 49) rfl) ?_ ?_ ?_ hs_same (fun q _ => ?_)
        · intro H2 b1 b2 b3 b4 b5 b6
          rw [e_MO_on_4]
          simp only [k_MO_on_4, e_MO_on_5, k_MO_on_5, en_MO_seats, e_MO_seats_0, k_MO_seats_0, rr, sh, Nat.reduceLT, Nat.reduceMul, Int.reduceToNat, Int.reduceGT, Int.reduceGE, Int.reduceNe, true_and, and_true, true_or, or_true, false_or, or_false, and_self, or_self, if_true, if_false, reduceIte, not_true_eq_false, not_false_eq_true, Int.reduceEq, Int.reduceNe, Int.reduceLT, Int.reduceLE, Int.reduceAdd, Int.reduceSub, Int.reduceMul, Int.reduceNeg, Nat.reduceAdd, Nat.reduceLeDiff, Nat.reduceEqDiff, ne_eq, List.length_cons, List.length_nil, Nat.reduceSub, (f b1).2.2.1, (f b1).2.2.2.1, hn.1, Int.le_refl]
          refine hQ z _ ⟨b1.hs (c := 71) (j := 55) rfl, (hs2 (by decide)).trans b2, (hs2 (by decide)).trans b3, (hs2 (by decide)).trans b4, (hs2 (by decide)).trans b5, hs_same, fun k hk => ?_⟩
          rw [hs_ne (by decide)]; exact b6 k hk
        · intro k hk ih
          clear hno hQ
          have c1 : ¬ (nS V : Int) ≤ k := by clear ih z w3 ei eb ew er; omega
          have j1 : 0 ≤ (k : Int) ∧ (k : Int) < 12 := by clear ih z w3 ei eb ew er; omega
          have kw := w32_s (n := k) (by clear ih z w3 ei eb ew er; omega)
          obtain ⟨i1, i2⟩ := ix10 hk hn.2
          have hbr : 0 ≤ who V k ∧ who V k < 256 := hbb (10 + 2 * k) (by clear ih z w3 ei eb ew er i1 i2 kw; omega)
          have hq2 := z.2.2.2.2.2 k hk
          have hbq : 0 ≤ rgt V k ∧ rgt V k ≤ 1 := ⟨hr0 k hk, hq2.1⟩
          have k1 : 0 ≤ ((10 + 2 * k : Nat) : Int) ∧ ((10 + 2 * k : Nat) : Int) < 1600 := by clear ih z w3 ei eb ew er i1 i2 kw; omega
          have k2 : 0 ≤ ((11 + 2 * k : Nat) : Int) ∧ ((11 + 2 * k : Nat) : Int) < 1600 := by clear ih z w3 ei eb ew er i1 i2 kw; omega
          have f1 : V 72 ((10 + 2 * k : Nat) : Int) = who V k := rfl
          have f2 : V 72 ((11 + 2 * k : Nat) : Int) = rgt V k := rfl
          have w1 : w32 (who V k - 1) = who V k - 1 := w32_id (by clear ih z w3 ei eb ew er i1 i2 kw f1 f2; omega) (by clear ih z w3 ei eb ew er i1 i2 kw f1 f2; omega)
          have hk12 : k < 12 := Nat.lt_of_lt_of_le hk hn.2
          obtain ⟨s1, s2⟩ := sdN_ok (V := V) (n := k) (fun q hq => hr0 q (Nat.lt_trans hq hk)) (fun q hq => z.2.2.2.2.2 q (Nat.lt_trans hq hk))
          have s3 : sdN V k < 4096 := Nat.lt_of_lt_of_le s1 (Nat.pow_le_pow_right (n := 2) (j := 12) (by decide) (Nat.le_of_lt hk12))
          have hp : 2 ^ k ≤ 2048 := Nat.pow_le_pow_right (n := 2) (j := 11) (by decide) (Nat.le_of_lt_succ hk12)
          have hm : (rgt V k).toNat * 2 ^ k ≤ 1 * 2048 := Nat.mul_le_mul (by have := hbq; clear ih z w3 ei eb ew er i1 i2 kw f1 f2 w1 s1 s2 s3 hp; omega) hp
          have w4 : b_shl (rgt V k) k = (((rgt V k).toNat * 2 ^ k : Nat) : Int) := by
            obtain ⟨r, hr⟩ := Int.eq_ofNat_of_zero_le hbq.1
            rw [hr] at hm ⊢
            exact b_shl_nat (Nat.lt_trans hk12 (by decide)) (Nat.lt_of_le_of_lt hm (by decide))
          have w5 : b_or (sdN V k : Int) (((rgt V k).toNat * 2 ^ k : Nat) : Int) = (sdN V (k + 1) : Int) := b_or_nat (Nat.lt_trans s3 (by decide)) (Nat.lt_of_le_of_lt hm (by decide))
          intro H2 b1 b2 b3 b4 b5 b6
          have b1' : ∀ v, Fx toM V (hs H2 107 k v) := fun v => b1.hs (c := 107) rfl
          have y49 : ∀ v, hs H2 107 k v 71 49 = (sdN V k : Int) := fun v => (hs_ne' (by decide)).trans b5
          rw [e_MO_on_4]
          simp only [k_MO_on_4, en_MO_seats, e_MO_seats_0, k_MO_seats_0, rr, sh, Nat.reduceLT, Nat.reduceMul, Int.reduceToNat, Int.reduceGT, Int.reduceGE, Int.reduceNe, true_and, and_true, true_or, or_true, false_or, or_false, and_self, or_self, if_true, if_false, reduceIte, not_true_eq_false, not_false_eq_true, Int.reduceEq, Int.reduceNe, Int.reduceLT, Int.reduceLE, Int.reduceAdd, Int.reduceSub, Int.reduceMul, Int.reduceNeg, Nat.reduceAdd, Nat.reduceLeDiff, Nat.reduceEqDiff, ne_eq, List.length_cons, List.length_nil, Nat.reduceSub, (f b1).1, (f b1).2.1, (f b1).2.2.1, (f b1).2.2.2.1, (f b1).2.2.2.2, (f (b1' _)).1, (f (b1' _)).2.1, hn.1, c1, i1, i2, k1, k2, j1, f1, f2, w1, y49, w4, w5, kw]
          refine ih _ ((b1' _).hs (c := 71) (j := 49) rfl) ?_ ?_ ?_ hs_same (fun q hq => ?_)
          · rw [hs2 (by decide), hs_ne (by decide)]; exact b2
          · rw [hs2 (by decide), hs_ne (by decide)]; exact b3
          · rw [hs2 (by decide), hs_ne (by decide)]; exact b4
          · rw [hs_ne (by decide), hs_at]
            by_cases e : q = k
            · subst e; rw [if_pos rfl, if_pos (Nat.lt_succ_self q)]
            · rw [if_neg (fun z => e (Int.ofNat_inj.mp z)), b6 q hq]
              by_cases e2 : q < k
              · rw [if_pos e2, if_pos (Nat.lt_succ_of_lt e2)]
              · rw [if_neg e2, if_neg (fun z => e2 (Nat.lt_of_le_of_ne (Nat.le_of_lt_succ z) e))]
        · rw [hs2 (by decide)]; exact a2
        · rw [hs2 (by decide)]; exact a3
        · rw [hs2 (by decide)]; exact a4
        · rw [hs_ne (by decide), a5, if_neg (Nat.not_lt_zero q)]
      · intro k hk ih
        clear hno hQ
        have c1 : ¬ (8 : Int) ≤ (k : Int) := by clear ih z w3 ei eb ew er; omega
        have kw := w32_s (n := k) (by clear ih z w3 ei eb ew er; omega)
        have w2 : w32 (2 + (k : Int)) = ((2 + k : Nat) : Int) := by rw [w32_id (by clear ih z w3 ei eb ew er kw; omega) (by clear ih z w3 ei eb ew er kw; omega)]; clear ih z w3 ei eb ew er kw; omega
        have j1 : 0 ≤ ((2 + k : Nat) : Int) ∧ ((2 + k : Nat) : Int) < 1600 := by clear ih z w3 ei eb ew er kw w2; omega
        have f1 : V 72 ((2 + k : Nat) : Int) = bt V (2 + k) := rfl
        intro H' a1 a2 a3 a4 a5
        rw [e_MO_on_2]
        simp only [k_MO_on_2, rr, sh, Nat.reduceLT, Nat.reduceMul, Int.reduceToNat, Int.reduceGT, Int.reduceGE, Int.reduceNe, true_and, and_true, true_or, or_true, false_or, or_false, and_self, or_self, if_true, if_false, reduceIte, not_true_eq_false, not_false_eq_true, Int.reduceEq, Int.reduceNe, Int.reduceLT, Int.reduceLE, Int.reduceAdd, Int.reduceSub, Int.reduceMul, Int.reduceNeg, Nat.reduceAdd, Nat.reduceLeDiff, Nat.reduceEqDiff, ne_eq, List.length_cons, List.length_nil, Nat.reduceSub, c1, (f a1).1, (f a1).2.1, a4, w2, j1, f1, kw]
        exact ih _ (a1.hs (c := 71) (j := 48) rfl) ((hs2 (by decide)).trans a2) ((hs2 (by decide)).trans a3) hs_same ((hs_ne (by decide)).trans a5)
      · rw [hs2 (by decide), hs2 (by decide)]; exact hs_same
      · rw [hs2 (by decide)]; exact hs_same
      · rw [hs_ne (by decide), hs_ne (by decide), hs_ne (by decide)]
  · have p29 : hs V 71 1 0 71 29 = 91 := hP (71, 29, 91) (by decide +kernel)
    have c91 : hs V 71 1 0 91 = V 91 := hs_ne (by decide)
    have w1 : w32 (11 + w32 (2 * (nS V : Int))) = ((11 + 2 * nS V : Nat) : Int) := by
      clear hno hQ ei eb ew er hb
      rw [w32_id (x := 2 * (nS V : Int)) (by omega) (by omega), w32_id (by omega) (by omega)]; omega
    simp only [en_MO_on, e_MO_on_0, k_MO_on_0, en_MO_isImage, e_MO_isImage_0, k_MO_isImage_0, e_MO_isImage_1, k_MO_isImage_1, en_MO_seats, e_MO_seats_0, k_MO_seats_0, rr, sh, Nat.reduceLT, Nat.reduceMul, Int.reduceToNat, Int.reduceGT, Int.reduceGE, Int.reduceNe, true_and, and_true, true_or, or_true, false_or, or_false, and_self, or_self, if_true, if_false, reduceIte, not_true_eq_false, not_false_eq_true, Int.reduceEq, Int.reduceNe, Int.reduceLT, Int.reduceLE, Int.reduceAdd, Int.reduceSub, Int.reduceMul, Int.reduceNeg, Nat.reduceAdd, Nat.reduceLeDiff, Nat.reduceEqDiff, ne_eq, List.length_cons, List.length_nil, Nat.reduceSub, p29, c91, hn.1, w1, hL, p9, c73]
    exact hno fun z => hL z.1
set_option maxRecDepth 20000 in
theorem c_onC (h : Inv0 V) (hno : ¬ imOk V → Q (vi 0) (hs (hs V 2 1 0) 70 5 (w32 (V 70 5 + 1)))) (hQ : imOk V → ∀ H', tkR V H' → Q (vi 1) (hs H' 2 1 0)) : CC (d + 5) EO_on [va 1] V Q := by
  have hI := h.1
  have hT := h.2.1
  have p1 : V 1 1 = 4 := hI.ptr (1, 1, 4) (by decide +kernel)
  have p2 : V 1 0 = 2 := hI.ptr (1, 0, 2) (by decide +kernel)
  simp only [en_EO_on, e_EO_on_0, k_EO_on_0, rr, sh, Nat.reduceLT, Nat.reduceMul, Int.reduceToNat, Int.reduceGT, Int.reduceGE, Int.reduceNe, true_and, and_true, true_or, or_true, false_or, or_false, and_self, or_self, if_true, if_false, reduceIte, not_true_eq_false, not_false_eq_true, Int.reduceEq, Int.reduceNe, Int.reduceLT, Int.reduceLE, Int.reduceAdd, Int.reduceSub, Int.reduceMul, Int.reduceNeg, Nat.reduceAdd, Nat.reduceLeDiff, Nat.reduceEqDiff, ne_eq, List.length_cons, List.length_nil, Nat.reduceSub, p1, p2]
  refine c_takeImage hI hT (fun z => ?_) (fun z H' hR => ?_)
  · have hP : Ptr (hs V 2 1 0) := (hI.vq (Vq.rf.hs (c := 2) (j := 1) rfl)).ptr
    have c70 : hs V 2 1 0 70 = V 70 := hs_ne (by decide)
    simp only [e_EO_on_1, k_EO_on_1, e_EO_on_2, k_EO_on_2, e_EO_on_3, k_EO_on_3, en_TP_clear, e_TP_clear_0, k_TP_clear_0, rr, sh, Nat.reduceLT, Nat.reduceMul, Int.reduceToNat, Int.reduceGT, Int.reduceGE, Int.reduceNe, true_and, and_true, true_or, or_true, false_or, or_false, and_self, or_self, if_true, if_false, reduceIte, not_true_eq_false, not_false_eq_true, Int.reduceEq, Int.reduceNe, Int.reduceLT, Int.reduceLE, Int.reduceAdd, Int.reduceSub, Int.reduceMul, Int.reduceNeg, Nat.reduceAdd, Nat.reduceLeDiff, Nat.reduceEqDiff, ne_eq, List.length_cons, List.length_nil, Nat.reduceSub, p2, q_refuse hP (Vw.rf (V := hs V 2 1 0)) (show (0 : Int) ≤ 5 ∧ (5 : Int) < 6 by decide), c70]
    exact hno z
  · have p2' : H' 1 0 = 2 := (hR.1 1 0 rfl).trans p2
    simp only [e_EO_on_1, k_EO_on_1, e_EO_on_2, k_EO_on_2, e_EO_on_3, k_EO_on_3, en_TP_clear, e_TP_clear_0, k_TP_clear_0, rr, sh, Nat.reduceLT, Nat.reduceMul, Int.reduceToNat, Int.reduceGT, Int.reduceGE, Int.reduceNe, true_and, and_true, true_or, or_true, false_or, or_false, and_self, or_self, if_true, if_false, reduceIte, not_true_eq_false, not_false_eq_true, Int.reduceEq, Int.reduceNe, Int.reduceLT, Int.reduceLE, Int.reduceAdd, Int.reduceSub, Int.reduceMul, Int.reduceNeg, Nat.reduceAdd, Nat.reduceLeDiff, Nat.reduceEqDiff, ne_eq, List.length_cons, List.length_nil, Nat.reduceSub, p2']
    exact hQ z H' hR
end PO
theorem hd_rng (V : Hp) (k : Nat) : -9223372036854775808 ≤ hdS V k ∧ hdS V k < 9223372036854775808 := by
  cases k with
  | zero => show (-9223372036854775808 : Int) ≤ 0 ∧ (0 : Int) < 9223372036854775808; decide
  | succ k =>
    have e : hdS V (k + 1) = (Int64.ofInt (l_shl (hdS V k) 8) ||| Int64.ofInt (bt V (2 + k))).toInt := rfl
    rw [e]
    have h1 := Int64.le_toInt (Int64.ofInt (l_shl (hdS V k) 8) ||| Int64.ofInt (bt V (2 + k)))
    have h2 := Int64.toInt_lt (Int64.ofInt (l_shl (hdS V k) 8) ||| Int64.ofInt (bt V (2 + k)))
    exact ⟨by simpa using h1, by simpa using h2⟩
def onS (a b : Int) : Bool := if a = 2 then decide (b = 1) else if a = 71 then (decide (b = 1) || decide (b = 47) || decide (b = 48) || decide (b = 49) || decide (b = 55)) else if a = 18 then true else if a = 19 then true else if a = 107 then true else if a = 4 then (decide (b = 3) || decide (b = 4) || decide (b = 11)) else false
theorem tkC_on (a b : Int) (h : tkC a b = true) : onS a b = true := by
  unfold tkC at h
  by_cases h1 : a = 18
  · subst h1; rfl
  · by_cases h2 : a = 19
    · subst h2; rfl
    · by_cases h3 : a = 4
      · subst h3; simpa [onS] using h
      · simp [h1, h2, h3] at h
theorem toM_on (a b : Int) (h : toM a b = true) : onS a b = true := by
  unfold toM at h
  by_cases h1 : a = 107
  · subst h1; rfl
  · by_cases h3 : a = 71
    · subst h3; simpa [onS] using h
    · simp [h1, h3] at h
/-- the tape alone is empty -/
theorem Inv0.t0 {V : Hp} (h : Inv0 V) : Inv0 (hs (hs V 2 1 0) 71 1 0) := by
  refine h.tape ((Fx.rf.hs (c := 2) (j := 1) rfl).hs (c := 71) (j := 1) rfl) ?_
  have e1 : hs (hs V 2 1 0) 71 1 0 2 1 = 0 := (hs_ne' (by decide)).trans hs_same
  refine ⟨by rw [e1]; decide, by rw [e1]; exact hs_same, fun k hk => ?_⟩
  rw [e1] at hk
  exact absurd hk (by omega)
theorem fx_t0 {V H : Hp} (h : Fx onS V H) (e1 : H 2 1 = 0) (e2 : H 71 1 = 0) : Fx actS (hs (hs V 2 1 0) 71 1 0) H := by
  intro a b q
  by_cases h1 : a = 71 ∧ b = 1
  · rw [h1.1, h1.2, e2]; exact hs_same.symm
  · by_cases h2 : a = 2 ∧ b = 1
    · rw [h2.1, h2.2, e1]; exact ((hs_ne' (by decide)).trans hs_same).symm
    · rw [hs2 h1, hs2 h2]
      refine h a b ?_
      unfold actS at q
      unfold onS
      by_cases c2 : a = 2
      · rw [if_pos c2]; exact decide_eq_false (fun z => h2 ⟨c2, z⟩)
      · by_cases c71 : a = 71
        · subst c71
          have b1 : ¬ b = 1 := fun z => h1 ⟨rfl, z⟩
          simp only [Int.reduceEq, if_false, if_true] at q ⊢
          simp at q
          simp [b1, q]
        · by_cases c4 : a = 4
          · subst c4
            simp only [Int.reduceEq, if_false, if_true] at q ⊢
            simp at q
            simp [q]
          · by_cases c18 : a = 18
            · subst c18; cases q
            · by_cases c19 : a = 19
              · subst c19; cases q
              · by_cases c107 : a = 107
                · subst c107; cases q
                · rw [if_neg c2, if_neg c71, if_neg c18, if_neg c19, if_neg c107, if_neg c4]

theorem p_on {d : Nat} {V : Hp} (h : Inv0 V) : Pair V (d + 10) EO_on MO_on [va 1] [va 71] := by
  have hI := h.1
  have hT := h.2.1
  have hn := hI.boat.s
  refine c_onC (d := d + 5) h (fun z => ?_) (fun z H1 hR => ?_)
  · have hq : Vq V (hs (hs V 2 1 0) 70 5 (w32 (V 70 5 + 1))) := (Vq.rf.hs (c := 2) (j := 1) rfl).hs (c := 70) (j := 5) rfl
    have hI1 := hI.vq hq
    have cc : ∀ c : Int, c ≠ 2 → c ≠ 70 → hs (hs V 2 1 0) 70 5 (w32 (V 70 5 + 1)) c = V c := fun c h1 h2 => by rw [hs_ne h2, hs_ne h1]
    have c71 := cc 71 (by decide) (by decide)
    have c72 := cc 72 (by decide) (by decide)
    have c73 := cc 73 (by decide) (by decide)
    have c91 := cc 91 (by decide) (by decide)
    have c94 := cc 94 (by decide) (by decide)
    have eS : nS (hs (hs V 2 1 0) 70 5 (w32 (V 70 5 + 1))) = nS V := by unfold nS nN; rw [c91]
    have eR : nR (hs (hs V 2 1 0) 70 5 (w32 (V 70 5 + 1))) = nR V := by unfold nR nN; rw [c91]
    have eb : bt (hs (hs V 2 1 0) 70 5 (w32 (V 70 5 + 1))) = bt V := by funext k; unfold bt; rw [c72]
    have ew : who (hs (hs V 2 1 0) 70 5 (w32 (V 70 5 + 1))) = who V := by funext k; unfold who; rw [c72]
    have er : rgt (hs (hs V 2 1 0) 70 5 (w32 (V 70 5 + 1))) = rgt V := by funext k; unfold rgt; rw [c72]
    have ei : imOk (hs (hs V 2 1 0) 70 5 (w32 (V 70 5 + 1))) = imOk V := by
      unfold imOk okR okS cntW
      rw [eS, eR, eb, ew, er, c94, c71]
    refine c_onM (d := d + 7) hI1.m (fun k _ hk => ?_) (fun _ => ⟨rfl, ?_⟩) (fun q => absurd (by rw [ei] at q; exact q) z)
    · rw [c71, hT.2.1] at hk
      rw [eb]; exact bt_rng hT hk
    · have hr := h.t0.ref (i := 5) (by decide)
      have e70 : hs (hs V 2 1 0) 71 1 0 70 5 = V 70 5 := (hs_ne' (by decide)).trans (hs_ne' (by decide))
      have e73 : hs (hs V 2 1 0) 71 1 0 73 5 = V 73 5 := (hs_ne' (by decide)).trans (hs_ne' (by decide))
      rw [e70, e73] at hr
      rw [c73]
      refine Eq.mp (congrArg Inv0 ?_) hr
      congr 1
      funext a b
      simp only [hs_app]
      by_cases q1 : a = 71 ∧ b = 1
      · rw [if_neg (by omega), if_pos q1, if_pos q1]
      · rw [if_neg q1, if_neg q1]
  · have hS1 : Fx onS V (hs H1 2 1 0) := (hR.1.up tkC_on).hs (c := 2) (j := 1) rfl
    have cc : ∀ c : Int, c ≠ 2 → c ≠ 4 → c ≠ 18 → c ≠ 19 → hs H1 2 1 0 c = V c := fun c h2 h4 h18 h19 => (hs_ne h2).trans (hR.1.cell c (fun b => by unfold tkC; rw [if_neg h18, if_neg h19, if_neg h4]))
    have c4 : ∀ j, (j ≠ 3 ∧ j ≠ 4 ∧ j ≠ 11) → hs H1 2 1 0 4 j = V 4 j := fun j hj => (hs_ne' (by decide)).trans (hR.1 4 j (by unfold tkC; simp [hj]))
    obtain ⟨-, t3, t4, t11, t18, t19⟩ := hR
    have k21 : hs H1 2 1 0 2 1 = 0 := hs_same
    have k4 : hs H1 2 1 0 4 = H1 4 := hs_ne (by decide)
    have k18 : hs H1 2 1 0 18 = H1 18 := hs_ne (by decide)
    have k19 : hs H1 2 1 0 19 = H1 19 := hs_ne (by decide)
    rw [← k4] at t3 t4 t11
    rw [← k18] at t18
    rw [← k19] at t19
    clear k4 k18 k19
    generalize hs H1 2 1 0 = H2 at *
    have c71 := cc 71 (by decide) (by decide) (by decide) (by decide)
    have c72 := cc 72 (by decide) (by decide) (by decide) (by decide)
    have c91 := cc 91 (by decide) (by decide) (by decide) (by decide)
    have c94 := cc 94 (by decide) (by decide) (by decide) (by decide)
    have c107 := cc 107 (by decide) (by decide) (by decide) (by decide)
    have eS : nS H2 = nS V := by unfold nS nN; rw [c91]
    have eR : nR H2 = nR V := by unfold nR nN; rw [c91]
    have eb : bt H2 = bt V := by funext k; unfold bt; rw [c72]
    have ew : who H2 = who V := by funext k; unfold who; rw [c72]
    have er : rgt H2 = rgt V := by funext k; unfold rgt; rw [c72]
    have eh : hdS H2 = hdS V := by
      funext k
      induction k with
      | zero => rfl
      | succ k ih => simp only [hdS, ih, eb]
    have ed : sdN H2 = sdN V := by
      funext k
      induction k with
      | zero => rfl
      | succ k ih => simp only [sdN, ih, er]
    have ei : imOk H2 = imOk V := by
      unfold imOk okR okS cntW
      rw [eS, eR, eb, ew, er, c94, c71]
    have hP2 : Ptr H2 := by
      have hs : ptL.all (fun q => !onS q.1 q.2.1) = true := by decide +kernel
      intro q hq
      have := List.all_eq_true.mp hs q hq
      rw [hS1 q.1 q.2.1 (by simpa using this)]
      exact hI.ptr q hq
    have hM2 : Inm H2 := hI.m.cg hP2 (fun a h1 h2 => cc a (by omega) (by omega) (by omega) (by omega)) (by rw [c71]) (by rw [c71]) (by rw [c71]) (by rw [c71]) (by rw [c71])
    refine c_onM (d := d + 7) hM2 (fun k _ hk => ?_) (fun q => absurd (by rw [ei]; exact z) q) (fun _ H3 hR3 => ⟨rfl, ?_⟩)
    · rw [c71, hT.2.1] at hk
      rw [eb]; exact bt_rng hT hk
    · obtain ⟨u0, u1, u47, u48, u49, u55, u107⟩ := hR3
      rw [eb] at u47
      rw [eh] at u48
      rw [ed, eS] at u49
      rw [eS, ew, c107] at u107
      have hS3 : Fx onS V H3 := hS1.tr (u0.up toM_on)
      have hA := fx_t0 hS3 ((u0 2 1 rfl).trans k21) u1
      have h0 := h.t0
      have hL : V 2 1 = ((11 + 2 * nS V : Nat) : Int) := hT.2.1.symm.trans z.1
      have b0 := bt_rng hT (k := 0) (by rw [hL]; omega)
      have b1 := bt_rng hT (k := 1) (by rw [hL]; omega)
      have hr0 : ∀ k, k < nS V → 0 ≤ rgt V k := fun k hk => (bt_rng hT (k := 11 + 2 * k) (by rw [hL]; omega)).1
      have hw0 : ∀ k, k < nS V → 0 ≤ who V k := fun k hk => (bt_rng hT (k := 10 + 2 * k) (by rw [hL]; omega)).1
      obtain ⟨s1, s2⟩ := sdN_ok hr0 z.2.2.2.2.2
      have g91 : H3 91 = V 91 := (u0.cell 91 (fun _ => rfl)).trans c91
      have g4 : H3 4 = H2 4 := u0.cell 4 (fun _ => rfl)
      have eS3 : nS H3 = nS V := by unfold nS nN; rw [g91]
      have eR3 : nR H3 = nR V := by unfold nR nN; rw [g91]
      have hD : sdV H3 = sdN V (nS V) := by unfold sdV; rw [u49]; rfl
      have f57 : H3 71 57 = V 71 57 := (u0 71 57 rfl).trans (by rw [c71])
      have f56 : H3 71 56 = V 71 56 := (u0 71 56 rfl).trans (by rw [c71])
      have hcm := hI.crew
      refine h0.act hA ⟨hA.actP h0.1.ptr, hA.actB h0.1.boat, ⟨by rw [u47]; exact ⟨by omega, z.2.2.1⟩, by rw [eS3, hD]; exact ⟨u49, s1⟩, fun k hk => ?_, fun k hk1 hk => ?_, by rw [f57]; exact hcm.seed, by rw [u48]; exact hd_rng V 8⟩, ?_, ?_⟩ ?_
      · rw [eS3] at hk
        rw [u107 k (Nat.lt_of_lt_of_le hk hI.boat.s.2), eR3]
        split
        · rename_i q
          have := (z.2.2.2.1 k q).1
          have := hw0 k q
          omega
        · rename_i q
          exact absurd hk q
      · rw [eS3] at hk1
        have h96 : H3 96 = V 96 := (hA.cell 96 (fun _ => rfl)).trans ((hs_ne (by decide)).trans (hs_ne (by decide)))
        have h97 : H3 97 = V 97 := (hA.cell 97 (fun _ => rfl)).trans ((hs_ne (by decide)).trans (hs_ne (by decide)))
        rw [u107 k hk, if_neg (Nat.not_lt.mpr hk1), eS3, h96, h97]
        exact hcm.off k hk1 hk
      · rw [g4, c4 0 (by decide)]
        have e40 : hs (hs V 2 1 0) 71 1 0 4 0 = V 4 0 := (hs_ne' (by decide)).trans (hs_ne' (by decide))
        have := hA.actL h0.1.pp h0.1.plan
        rw [e40] at this
        exact this
      · refine ⟨by rw [g4, c4 0 (by decide)]; exact hI.pp, ?_, ?_, ?_, ?_, fun k hk => ?_, fun k hk => ?_⟩
        · rw [g4, c4 0 (by decide), u0.cell 1 (fun _ => rfl), cc 1 (by decide) (by decide) (by decide) (by decide)]; exact hI.cc.2.1
        · rw [g4, t3, u47]
        · rw [g4, t4, u48]
        · rw [g4, c4 5 (by decide), f57]; exact hI.cc.drawn
        · rw [eS3] at hk
          rw [u0.cell 18 (fun _ => rfl), t18 k (Nat.lt_of_lt_of_le hk hI.boat.s.2), u107 k (Nat.lt_of_lt_of_le hk hI.boat.s.2)]
          split <;> first | rfl | exact hI.cc.sits k hk
        · rw [eS3] at hk
          rw [u0.cell 19 (fun _ => rfl), t19 k hk, hD, s2 k hk]
          have h1 := (z.2.2.2.2.2 k hk).1
          have h2 := hr0 k hk
          by_cases e : rgt V k = 1
          · rw [e]; rfl
          · have e' : rgt V k = 0 := by omega
            rw [e']; rfl
      · obtain ⟨hm, a1, a2, -⟩ := h.2.2.2.2.2.1
        refine ⟨by rw [f56]; exact hm, by rw [g4, c4 10 (by decide), f56]; exact a1, by rw [g4, t11, u55], 0, by rw [u55]; rfl, by decide, fun i hi => absurd hi (Nat.not_lt_zero i)⟩
