/-! THE BOAT'S TEXT, the class: what adds to a plan -/
theorem toNat_k {k : Nat} : ((k : Nat) : Int).toNat = k := Int.toNat_natCast k
def seatP (P : Hp) (v w : Int) : Hp := hs (hs (hs (hs P 92 (sTx P) v) 93 (sTx P) w) 94 (sTx P) 0) 91 0 ((sTx P + 1 : Nat) : Int)
def rowP (P : Hp) (x v w : Int) : Hp := hs (hs (hs (hs P 95 (rTx P) x) 96 (rTx P) v) 97 (rTx P) w) 91 1 ((rTx P + 1 : Nat) : Int)
def wantP (P : Hp) (q v : Int) : Hp := hs (hs P 100 q 1) 101 q v
def payP (P : Hp) (v w : Int) : Hp := hs (hs (hs P 105 (yTx P) v) 106 (yTx P) w) 91 3 ((yTx P + 1 : Nat) : Int)
/-- a run's sides -/
def sidP (P : Hp) (L : Nat → Int) : Hp := fun a b => if a = 102 ∧ (12 * uTx P : Nat) ≤ b ∧ b < (12 * uTx P + 12 : Nat) then L (b.toNat - 12 * uTx P) else P a b
def runP (P : Hp) (v w : Int) : Hp := hs (hs (hs P 103 (uTx P) v) 104 (uTx P) w) 91 2 ((uTx P + 1 : Nat) : Int)
section PC
variable {d : Nat} {P H : Hp} {p : Int} {Q : AV → Hp → Prop}
theorem at_z {n k : Nat} {x y : Int} : (if (k : Int) = (n : Int) then x else y) = if k = n then x else y := by
  by_cases c : k = n
  · rw [if_pos c, if_pos (by omega)]
  · rw [if_neg c, if_neg (by omega)]
theorem seatP_t {v w : Int} : sTx (seatP P v w) = sTx P + 1 ∧ rTx (seatP P v w) = rTx P ∧ uTx (seatP P v w) = uTx P ∧ yTx (seatP P v w) = yTx P := by
  refine ⟨?_, ?_, ?_, ?_⟩
  · show (seatP P v w 91 0).toNat = _
    unfold seatP; rw [hs_same]; rfl
  all_goals (simp only [sTx, rTx, uTx, yTx, seatP, hs_app, Int.reduceEq, Int.reduceAdd, and_false, false_and, and_true, true_and, if_false, if_true, reduceIte, eq_self, and_self])
theorem seatP_o {v w a : Int} (h : a ≠ 91 ∧ a ≠ 92 ∧ a ≠ 93 ∧ a ≠ 94) : seatP P v w a = P a := by
  unfold seatP
  rw [hs_ne h.1, hs_ne h.2.2.2, hs_ne h.2.2.1, hs_ne h.2.1]
theorem seatP_c {v w : Int} : (∀ k : Nat, seatP P v w 92 k = if k = sTx P then v else P 92 k) ∧ (∀ k : Nat, seatP P v w 93 k = if k = sTx P then w else P 93 k) ∧ ∀ k : Nat, seatP P v w 94 k = if k = sTx P then 0 else P 94 k := by
  refine ⟨fun k => ?_, fun k => ?_, fun k => ?_⟩ <;> simp only [seatP, hs_app, Int.reduceEq, Int.reduceAdd, and_false, false_and, and_true, true_and, if_false, if_true, reduceIte, eq_self, and_self, at_z]
theorem seatP_B {v w : Int} (hB : TxB P) (hn : sTx P < 12) (hv : 1 ≤ v ∧ v ≤ 99) (hw : 1 ≤ w ∧ w ≤ 99) : TxB (seatP P v w) := by
  obtain ⟨t0, t1, t2, t3⟩ := seatP_t (P := P) (v := v) (w := w)
  obtain ⟨c2, c3, c4⟩ := seatP_c (P := P) (v := v) (w := w)
  have o : ∀ a : Int, a ≠ 91 ∧ a ≠ 92 ∧ a ≠ 93 ∧ a ≠ 94 → seatP P v w a = P a := fun a h => seatP_o h
  have n0 : seatP P v w 91 0 = ((sTx P + 1 : Nat) : Int) := hs_same
  have n1 : seatP P v w 91 1 = P 91 1 := by simp only [seatP, hs_app, Int.reduceEq, Int.reduceAdd, and_false, false_and, and_true, true_and, if_false, if_true, reduceIte, eq_self, and_self]
  have n2 : seatP P v w 91 2 = P 91 2 := by simp only [seatP, hs_app, Int.reduceEq, Int.reduceAdd, and_false, false_and, and_true, true_and, if_false, if_true, reduceIte, eq_self, and_self]
  have n3 : seatP P v w 91 3 = P 91 3 := by simp only [seatP, hs_app, Int.reduceEq, Int.reduceAdd, and_false, false_and, and_true, true_and, if_false, if_true, reduceIte, eq_self, and_self]
  obtain ⟨b0, b1, b2, b3, b4, b5, b6, bR⟩ := hB
  unfold TxB
  rw [t0, t1, t2, t3, n0, n1, n2, n3, o 96 (by decide), o 97 (by decide), o 98 (by decide), o 99 (by decide), o 100 (by decide), o 101 (by decide), o 103 (by decide), o 104 (by decide), o 105 (by decide), o 106 (by decide)]
  refine ⟨⟨rfl, by omega⟩, b1, b2, b3, fun k hk => ?_, fun k hk => ?_, fun k hk => ?_, bR⟩
  · rw [c2]; split
    · exact hv
    · exact b4 k (by omega)
  · rw [c3]; split
    · exact hw
    · exact b5 k (by omega)
  · rw [c4]; split
    · decide
    · exact b6 k (by omega)
theorem tb_lt {f n k : Nat} (hf : f < 2 ^ n) (hk : n ≤ k) : f.testBit k = false := Nat.testBit_lt_two_pow (Nat.lt_of_lt_of_le hf (Nat.pow_le_pow_right (by decide) hk))
theorem seat_pl {H' : Hp} {v w : Int} (hL : PlT P H p)
    (e0 : H' p 0 = ((sTx P + 1 : Nat) : Int)) (ep : ∀ b, b ≠ 0 → H' p b = H p b)
    (e1 : ∀ k : Nat, H' (p + 1) k = if k = sTx P then v else H (p + 1) k) (e2 : ∀ k : Nat, H' (p + 2) k = if k = sTx P then w else H (p + 2) k)
    (e3 : ∀ q k : Nat, q < 4 → k < 12 → H' (p + 3) (12 * q + k) = if k = sTx P then w * v ^ q else H (p + 3) (12 * q + k)) (hn : sTx P < 12)
    (eo : ∀ a, p + 4 ≤ a → a ≤ p + 12 → H' a = H a) : PlT (seatP P v w) H' p := by
  obtain ⟨t0, t1, t2, t3⟩ := seatP_t (P := P) (v := v) (w := w)
  obtain ⟨c2, c3, c4⟩ := seatP_c (P := P) (v := v) (w := w)
  have o : ∀ a : Int, a ≠ 91 ∧ a ≠ 92 ∧ a ≠ 93 ∧ a ≠ 94 → seatP P v w a = P a := fun a h => seatP_o h
  obtain ⟨⟨a0, a1, a2, a3, a4, a5⟩, ⟨s1, s2, s3⟩, ⟨f, g, f1, f2, f3, f4, f5⟩, gR⟩ := hL
  unfold PlT
  rw [t0, t1, t2, t3, e0, ep 6 (by decide), ep 13 (by decide), ep 17 (by decide), ep 10 (by decide), ep 12 (by decide), ep 4 (by decide), ep 5 (by decide), eo (p + 4) (by omega) (by omega), eo (p + 5) (by omega) (by omega), eo (p + 6) (by omega) (by omega), eo (p + 7) (by omega) (by omega), eo (p + 8) (by omega) (by omega), eo (p + 9) (by omega) (by omega), eo (p + 10) (by omega) (by omega), eo (p + 11) (by omega) (by omega), eo (p + 12) (by omega) (by omega), o 95 (by decide), o 96 (by decide), o 97 (by decide), o 98 (by decide), o 99 (by decide), o 100 (by decide), o 101 (by decide), o 102 (by decide), o 103 (by decide), o 104 (by decide), o 105 (by decide), o 106 (by decide)]
  refine ⟨⟨rfl, a1, a2, a3, a4, a5⟩, ⟨fun k hk => ?_, fun k hk => ?_, fun q k hq hk => ?_⟩, ⟨f, g, f1, f2, Nat.lt_of_lt_of_le f3 (Nat.pow_le_pow_right (by decide) (Nat.le_succ _)), Nat.lt_of_lt_of_le f4 (Nat.pow_le_pow_right (by decide) (Nat.le_succ _)), fun k hk => ?_⟩, gR⟩
  · rw [c2, e1]; split
    · rfl
    · exact s1 k (by omega)
  · rw [c3, e2]; split
    · rfl
    · exact s2 k (by omega)
  · rw [c2, c3, e3 q k hq (by omega)]; split
    · rfl
    · exact s3 q k hq (by omega)
  · rw [c4]; split
    · next c => subst c; rw [tb_lt f3 (Nat.le_refl _), tb_lt f4 (Nat.le_refl _)]; decide
    · exact f5 k (by omega)
theorem mul99 {v x B : Int} (hv : 1 ≤ v ∧ v ≤ 99) (hx : 1 ≤ x ∧ x ≤ B) : 1 ≤ x * v ∧ x * v ≤ B * 99 :=
  ⟨by have := Int.mul_le_mul hx.1 hv.1 (by decide) (by omega); omega, Int.mul_le_mul hx.2 hv.2 (by omega) (by omega)⟩
theorem mulF {v w : Int} (hv : 1 ≤ v ∧ v ≤ 99) (hw : 1 ≤ w ∧ w ≤ 99) : w64 (w * v) = w * v ∧ w64 (w * v * v) = w * v * v ∧ w64 (w * v * v * v) = w * v * v * v ∧ w64 (w * v * v * v * v) = w * v * v * v * v := by
  have m1 := mul99 hv hw
  have m2 := mul99 hv m1
  have m3 := mul99 hv m2
  have m4 := mul99 hv m3
  generalize w * v * v * v * v = x4 at *
  generalize w * v * v * v = x3 at *
  generalize w * v * v = x2 at *
  generalize w * v = x1 at *
  exact ⟨w64_id (by omega) (by omega), w64_id (by omega) (by omega), w64_id (by omega) (by omega), w64_id (by omega) (by omega)⟩
theorem ofsF {n : Nat} (h : n < 12) : w32 (0 + (n : Int)) = n ∧ w32 (12 + (n : Int)) = 12 + n ∧ w32 (24 + (n : Int)) = 24 + n ∧ w32 (36 + (n : Int)) = 36 + n ∧ w32 ((n : Int) + 1) = ((n + 1 : Nat) : Int) :=
  ⟨by rw [w32_id (by omega) (by omega), Int.zero_add], w32_id (by omega) (by omega), w32_id (by omega) (by omega), w32_id (by omega) (by omega), w32_s (by omega)⟩
theorem ofsG {n : Nat} (h : n < 12) : (n : Int) < 12 ∧ (0 ≤ (n : Int) ∧ (n : Int) < 12) ∧ (0 ≤ (n : Int) ∧ (n : Int) < 48) ∧ (0 ≤ 12 + (n : Int) ∧ 12 + (n : Int) < 48) ∧ (0 ≤ 24 + (n : Int) ∧ 24 + (n : Int) < 48) ∧ (0 ≤ 36 + (n : Int) ∧ 36 + (n : Int) < 48) := by omega
/-- a pointer of the plan is read past a row's write -/
theorem hs_pp {X : Hp} {p i j v b : Int} (h : 1 ≤ i) : hs X (p + i) j v p b = X p b := hs_ne' (by omega)
def seatH (H : Hp) (p : Int) (n : Nat) (v w : Int) : Hp := hs (hs (hs (hs (hs (hs (hs H (p + 1) n v) (p + 2) n w) (p + 3) n w) (p + 3) (12 + n) (w * v)) (p + 3) (24 + n) (w * v * v)) (p + 3) (36 + n) (w * v * v * v)) p 0 ((n + 1 : Nat) : Int)
theorem aS_st (x1 : shc p = 5) (g3 : sht (p + 3) = 2 ∧ shl (p + 3) = 48) {X : Hp} {n : Nat} {q q2 i i2 pr pr2 v w : Int} (X3 : X p 3 = p + 3) (X0 : X p 0 = n) (hq : q < 4) (w1 : w32 (q * 12) = i) (w2 : w32 (i + n) = i2) (j1 : 0 ≤ i2 ∧ i2 < 48) (w3 : w32 (q + 1) = q2) (w4 : w64 (pr * v) = pr2) (h : R d PL_addSeat (blk PL_addSeat 2) [va p, vi v, vi w, vl pr2, vu, vi q2] [] (hs X (p + 3) i2 pr) Q) : R d PL_addSeat (blk PL_addSeat 2) [va p, vi v, vi w, vl pr, vu, vi q] [] X Q := by
  have c1 : ¬ (4 : Int) ≤ q := by omega
  rw [e_PL_addSeat_2]
  simp only [k_PL_addSeat_2, rr, sh, Nat.reduceLT, Nat.reduceMul, Int.reduceToNat, Int.reduceGT, Int.reduceGE, Int.reduceNe, true_and, and_true, true_or, or_true, false_or, or_false, and_self, or_self, if_true, if_false, reduceIte, not_true_eq_false, not_false_eq_true, Int.reduceEq, Int.reduceNe, Int.reduceLT, Int.reduceLE, Int.reduceAdd, Int.reduceSub, Int.reduceMul, Int.reduceNeg, Nat.reduceAdd, Nat.reduceLeDiff, Nat.reduceEqDiff, ne_eq, List.length_cons, List.length_nil, Nat.reduceSub, x1, g3, X3, X0, c1, w1, w2, w3, w4, j1]
  exact h
set_option maxRecDepth 20000 in
theorem q_addSeat (x1 : shc p = 5) (g1 : H p 1 = p + 1 ∧ sht (p + 1) = 1 ∧ shl (p + 1) = 12) (g2 : H p 2 = p + 2 ∧ sht (p + 2) = 1 ∧ shl (p + 2) = 12) (g3 : H p 3 = p + 3 ∧ sht (p + 3) = 2 ∧ shl (p + 3) = 48) {n : Nat} (h0 : H p 0 = n) (hn : n < 12) {v w : Int} (hv : 1 ≤ v ∧ v ≤ 99) (hw : 1 ≤ w ∧ w ≤ 99) : CC d PL_addSeat [va p, vi v, vi w] H Q = Q vu (seatH H p n v w) := by
  refine CC_dt fun Q hQ => ?_
  have r1 : ∀ (X : Hp) (j v b : Int), hs X (p + 1) j v p b = X p b := fun X j v b => hs_pp (by decide)
  have r2 : ∀ (X : Hp) (j v b : Int), hs X (p + 2) j v p b = X p b := fun X j v b => hs_pp (by decide)
  have r3 : ∀ (X : Hp) (j v b : Int), hs X (p + 3) j v p b = X p b := fun X j v b => hs_pp (by decide)
  have c := ofsG hn
  have y := ofsF hn
  have x := mulF hv hw
  simp only [en_PL_addSeat, e_PL_addSeat_0, k_PL_addSeat_0, e_PL_addSeat_1, k_PL_addSeat_1, rr, sh, Nat.reduceLT, Nat.reduceMul, Int.reduceToNat, Int.reduceGT, Int.reduceGE, Int.reduceNe, true_and, and_true, true_or, or_true, false_or, or_false, and_self, or_self, if_true, if_false, reduceIte, not_true_eq_false, not_false_eq_true, Int.reduceEq, Int.reduceNe, Int.reduceLT, Int.reduceLE, Int.reduceAdd, Int.reduceSub, Int.reduceMul, Int.reduceNeg, Nat.reduceAdd, Nat.reduceLeDiff, Nat.reduceEqDiff, ne_eq, List.length_cons, List.length_nil, Nat.reduceSub, r1, x1, g1, g2, h0, c]
  refine aS_st (i := 0) (i2 := n) (q2 := 1) (pr2 := w * v) x1 g3.2 (by rw [r2, r1]; exact g3.1) (by rw [r2, r1]; exact h0) (by decide) rfl y.1 c.2.2.1 rfl x.1 ?_
  refine aS_st (i := 12) (i2 := 12 + n) (q2 := 2) (pr2 := w * v * v) x1 g3.2 (by rw [r3, r2, r1]; exact g3.1) (by rw [r3, r2, r1]; exact h0) (by decide) rfl y.2.1 c.2.2.2.1 rfl x.2.1 ?_
  refine aS_st (i := 24) (i2 := 24 + n) (q2 := 3) (pr2 := w * v * v * v) x1 g3.2 (by rw [r3, r3, r2, r1]; exact g3.1) (by rw [r3, r3, r2, r1]; exact h0) (by decide) rfl y.2.2.1 c.2.2.2.2.1 rfl x.2.2.1 ?_
  refine aS_st (i := 36) (i2 := 36 + n) (q2 := 4) (pr2 := w * v * v * v * v) x1 g3.2 (by rw [r3, r3, r3, r2, r1]; exact g3.1) (by rw [r3, r3, r3, r2, r1]; exact h0) (by decide) rfl y.2.2.2.1 c.2.2.2.2.2 rfl x.2.2.2 ?_
  rw [e_PL_addSeat_2]
  simp only [k_PL_addSeat_2, e_PL_addSeat_3, k_PL_addSeat_3, rr, sh, Nat.reduceLT, Nat.reduceMul, Int.reduceToNat, Int.reduceGT, Int.reduceGE, Int.reduceNe, true_and, and_true, true_or, or_true, false_or, or_false, and_self, or_self, if_true, if_false, reduceIte, not_true_eq_false, not_false_eq_true, Int.reduceEq, Int.reduceNe, Int.reduceLT, Int.reduceLE, Int.reduceAdd, Int.reduceSub, Int.reduceMul, Int.reduceNeg, Nat.reduceAdd, Nat.reduceLeDiff, Nat.reduceEqDiff, ne_eq, List.length_cons, List.length_nil, Nat.reduceSub, r1, r2, r3, x1, h0, y]
  exact hQ
theorem lev_at {n k q : Nat} (hk : k < 12) (hn : n < 12) (hq : q < 4) {v w z : Int} : (if 12 * (q : Int) + k = 36 + n then w * v * v * v else if 12 * (q : Int) + k = 24 + n then w * v * v else if 12 * (q : Int) + k = 12 + n then w * v else if 12 * (q : Int) + k = n then w else z) = if k = n then w * v ^ q else z := by
  have hq' : q = 0 ∨ q = 1 ∨ q = 2 ∨ q = 3 := by omega
  by_cases c : k = n
  · subst c
    rw [if_pos rfl]
    rcases hq' with rfl | rfl | rfl | rfl
    · rw [if_neg (by omega), if_neg (by omega), if_neg (by omega), if_pos (by omega), Int.pow_zero, Int.mul_one]
    · rw [if_neg (by omega), if_neg (by omega), if_pos (by omega), Int.pow_succ, Int.pow_zero, Int.one_mul]
    · rw [if_neg (by omega), if_pos (by omega), Int.pow_succ, Int.pow_succ, Int.pow_zero, Int.one_mul, Int.mul_assoc]
    · rw [if_pos (by omega), Int.pow_succ, Int.pow_succ, Int.pow_succ, Int.pow_zero, Int.one_mul, Int.mul_assoc, Int.mul_assoc, ← Int.mul_assoc v v v]
  · rw [if_neg c]
    rcases hq' with rfl | rfl | rfl | rfl <;> rw [if_neg (by omega), if_neg (by omega), if_neg (by omega), if_neg (by omega)]
theorem c_addSeat (hp : p = 5 ∨ p = 25) (hP : Ptr H) (hB : TxB P) (hL : PlT P H p) (hn : sTx P < 12) {v w : Int} (hv : 1 ≤ v ∧ v ≤ 99) (hw : 1 ≤ w ∧ w ≤ 99)
    (hQ : ∀ H', Fx (sPX p) H H' → PlT (seatP P v w) H' p → Q vu H') : CC d PL_addSeat [va p, vi v, vi w] H Q := by
  obtain ⟨x1, g1, g2, g3, -⟩ := pp_f hp hP
  rw [q_addSeat x1 g1 g2 g3 hL.1.1 hn hv hw]
  refine hQ _ ?_ (seat_pl hL hs_same (fun b hb => ?_) (fun k => ?_) (fun k => ?_) (fun q k hq hk => ?_) hn (fun a h1 h2 => ?_))
  · exact ((((((Fx.rf.hs (sPX_a (by decide))).hs (sPX_a (by decide))).hs (sPX_a (by decide))).hs (sPX_a (by decide))).hs (sPX_a (by decide))).hs (sPX_a (by decide))).hs (sPX_p (Or.inl rfl))
  · unfold seatH
    rw [hs2 (fun z => hb z.2), hs_pp (by decide), hs_pp (by decide), hs_pp (by decide), hs_pp (by decide), hs_pp (by decide), hs_pp (by decide)]
  · unfold seatH
    rw [hs_ne' (by omega), hs_ne' (by omega), hs_ne' (by omega), hs_ne' (by omega), hs_ne' (by omega), hs_ne' (by omega), hs_at, at_z]
  · unfold seatH
    rw [hs_ne' (by omega), hs_ne' (by omega), hs_ne' (by omega), hs_ne' (by omega), hs_ne' (by omega), hs_at, at_z, hs_ne' (by omega)]
  · unfold seatH
    rw [hs_ne' (by omega), hs_at, hs_at, hs_at, hs_at, hs_ne' (by omega), hs_ne' (by omega)]
    exact lev_at hk hn hq
  · unfold seatH
    rw [hs_ne (by omega), hs_ne (by omega), hs_ne (by omega), hs_ne (by omega), hs_ne (by omega), hs_ne (by omega), hs_ne (by omega)]
end PC
