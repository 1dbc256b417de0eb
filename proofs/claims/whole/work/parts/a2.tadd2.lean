/-! THE BOAT'S TEXT, the class: a seat fixed, a rower, a want, a run, a payment added -/
theorem b_andn {f x : Nat} (hf : f < 2147483648) (hx : x < 2147483648) : b_and f (b_xor x (-1)) = ((f ^^^ (f &&& x) : Nat) : Int) := by
  show (Int32.ofInt f &&& Int32.ofInt ((Int32.ofInt x ^^^ Int32.ofInt (-1)).toInt)).toBitVec.toInt = _
  rw [Int32.ofInt_toInt, Int32.toBitVec_and, Int32.toBitVec_xor, i32b, i32b, show (Int32.ofInt (-1)).toBitVec = BitVec.allOnes 32 by decide]
  have e : ∀ A B : BitVec 32, A &&& (B ^^^ BitVec.allOnes 32) = A ^^^ (A &&& B) := by
    intro A B
    refine BitVec.eq_of_getLsbD_eq fun i hi => ?_
    rw [BitVec.getLsbD_and, BitVec.getLsbD_xor, BitVec.getLsbD_xor, BitVec.getLsbD_and, BitVec.getLsbD_allOnes, decide_eq_true hi]
    cases A.getLsbD i <;> cases B.getLsbD i <;> rfl
  rw [e]
  refine bv_int ?_ ?_
  · rw [BitVec.toNat_xor, BitVec.toNat_and, BitVec.toNat_ofNat, BitVec.toNat_ofNat, Nat.mod_eq_of_lt (by omega), Nat.mod_eq_of_lt (by omega)]
  · have h1 : f &&& x < 2 ^ 31 := Nat.lt_of_le_of_lt Nat.and_le_left hf
    have := nlt_xor (n := 31) hf h1
    omega
def fixP (P : Hp) (s : Nat) (x : Int) : Hp := hs P 94 s x
section PD
variable {d : Nat} {P H : Hp} {p : Int} {Q : AV → Hp → Prop}
theorem fixP_B {s : Nat} {x : Int} (hB : TxB P) (hx : 0 ≤ x ∧ x ≤ 2) : TxB (fixP P s x) := by
  obtain ⟨b0, b1, b2, b3, b4, b5, b6, bR⟩ := hB
  have o : ∀ a : Int, a ≠ 94 → fixP P s x a = P a := fun a h => hs_ne h
  unfold TxB sTx rTx uTx yTx
  rw [o 91 (by decide), o 92 (by decide), o 93 (by decide), o 96 (by decide), o 97 (by decide), o 98 (by decide), o 99 (by decide), o 100 (by decide), o 101 (by decide), o 103 (by decide), o 104 (by decide), o 105 (by decide), o 106 (by decide)]
  refine ⟨b0, b1, b2, b3, b4, b5, fun k hk => ?_, bR⟩
  unfold fixP
  rw [hs_at, at_z]
  split
  · exact hx
  · exact b6 k hk
theorem tb_or {f s k : Nat} : (f ||| 1 * 2 ^ s).testBit k = (f.testBit k || decide (s = k)) := by
  rw [Nat.testBit_or, Nat.one_mul, Nat.testBit_two_pow]
theorem tb_an {f s k : Nat} : (f ^^^ (f &&& 1 * 2 ^ s)).testBit k = (f.testBit k && !decide (s = k)) := by
  rw [Nat.testBit_xor, Nat.testBit_and, Nat.one_mul, Nat.testBit_two_pow]
  cases f.testBit k <;> cases decide (s = k) <;> rfl
theorem fix_pl {H' : Hp} {s : Nat} {x : Int} {f' g' : Nat} (hL : PlT P H p) (hs' : s < sTx P)
    (ep : ∀ b, b ≠ 4 → b ≠ 5 → H' p b = H p b) (eo : ∀ a, p + 1 ≤ a → a ≤ p + 12 → H' a = H a) (e4 : H' p 4 = f') (e5 : H' p 5 = g') (hf : f' < 2 ^ sTx P) (hg : g' < 2 ^ sTx P)
    (hk : ∀ k : Nat, k < sTx P → f'.testBit k = (if k = s then decide (x = 1) else decide (P 94 k = 1)) ∧ g'.testBit k = (if k = s then decide (x = 2) else decide (P 94 k = 2))) : PlT (fixP P s x) H' p := by
  have o : ∀ a : Int, a ≠ 94 → fixP P s x a = P a := fun a h => hs_ne h
  obtain ⟨⟨a0, a1, a2, a3, a4, a5⟩, ⟨s1, s2, s3⟩, ⟨f, g, f1, f2, f3, f4, f5⟩, gR⟩ := hL
  unfold PlT sTx rTx uTx yTx
  rw [ep 0 (by decide) (by decide), ep 6 (by decide) (by decide), ep 13 (by decide) (by decide), ep 17 (by decide) (by decide), ep 10 (by decide) (by decide), ep 12 (by decide) (by decide), eo (p + 1) (by omega) (by omega), eo (p + 2) (by omega) (by omega), eo (p + 3) (by omega) (by omega), eo (p + 4) (by omega) (by omega), eo (p + 5) (by omega) (by omega), eo (p + 6) (by omega) (by omega), eo (p + 7) (by omega) (by omega), eo (p + 8) (by omega) (by omega), eo (p + 9) (by omega) (by omega), eo (p + 10) (by omega) (by omega), eo (p + 11) (by omega) (by omega), eo (p + 12) (by omega) (by omega), o 91 (by decide), o 92 (by decide), o 93 (by decide), o 95 (by decide), o 96 (by decide), o 97 (by decide), o 98 (by decide), o 99 (by decide), o 100 (by decide), o 101 (by decide), o 102 (by decide), o 103 (by decide), o 104 (by decide), o 105 (by decide), o 106 (by decide)]
  refine ⟨⟨a0, a1, a2, a3, a4, a5⟩, ⟨s1, s2, s3⟩, ⟨f', g', e4, e5, hf, hg, fun k hk' => ?_⟩, gR⟩
  have := hk k hk'
  unfold fixP
  rw [hs_at, at_z, this.1, this.2]
  by_cases c : k = s
  · rw [if_pos c, if_pos c, if_pos c]; exact ⟨rfl, rfl⟩
  · rw [if_neg c, if_neg c, if_neg c]; exact ⟨rfl, rfl⟩
set_option maxRecDepth 20000 in
theorem c_fixSeat (hp : p = 5 ∨ p = 25) (hB : TxB P) (hL : PlT P H p) {s : Nat} (hs' : s < sTx P) {r : Int} (hr : r = 0 ∨ r = 1)
    (hQ : ∀ H', Fx (sPX p) H H' → PlT (fixP P s (if r = 1 then 2 else 1)) H' p → Q vu H') : CC d PL_fixSeat [va p, vi s, vi r] H Q := by
  have hn := hB.1
  obtain ⟨f, g, f1, f2, f3, f4, f5⟩ := id hL.2.2.1
  have n12 : 2 ^ sTx P ≤ 4096 := Nat.pow_le_pow_right (n := 2) (j := 12) (by decide) hn.2
  have p2 : 2 ^ s < 2 ^ sTx P := Nat.pow_lt_pow_right (by decide) hs'
  have w1 : b_shl 1 (s : Int) = ((1 * 2 ^ s : Nat) : Int) := b_shl_nat (a := 1) (by omega) (by omega)
  have p3 : 1 * 2 ^ s < 2 ^ sTx P := by rw [Nat.one_mul]; exact p2
  have u1 : b_or (f : Int) ((1 * 2 ^ s : Nat) : Int) = ((f ||| 1 * 2 ^ s : Nat) : Int) := b_or_nat (by omega) (by omega)
  have u2 : b_or (g : Int) ((1 * 2 ^ s : Nat) : Int) = ((g ||| 1 * 2 ^ s : Nat) : Int) := b_or_nat (by omega) (by omega)
  have u3 : b_and (f : Int) (b_xor ((1 * 2 ^ s : Nat) : Int) (-1)) = ((f ^^^ (f &&& 1 * 2 ^ s) : Nat) : Int) := b_andn (by omega) (by omega)
  have u4 : b_and (g : Int) (b_xor ((1 * 2 ^ s : Nat) : Int) (-1)) = ((g ^^^ (g &&& 1 * 2 ^ s) : Nat) : Int) := b_andn (by omega) (by omega)
  have v1 := nlt_or f3 p3
  have v2 := nlt_or f4 p3
  have v3 : f ^^^ (f &&& 1 * 2 ^ s) < 2 ^ sTx P := nlt_xor f3 (Nat.lt_of_le_of_lt Nat.and_le_left f3)
  have v4 : g ^^^ (g &&& 1 * 2 ^ s) < 2 ^ sTx P := nlt_xor f4 (Nat.lt_of_le_of_lt Nat.and_le_left f4)
  have kl : ∀ k : Nat, k < sTx P → (f ||| 1 * 2 ^ s).testBit k = (if k = s then decide ((1 : Int) = 1) else decide (P 94 k = 1)) ∧ (g ^^^ (g &&& 1 * 2 ^ s)).testBit k = (if k = s then decide ((1 : Int) = 2) else decide (P 94 k = 2)) := by
    intro k hk
    have := f5 k hk
    rw [tb_or, tb_an, this.1, this.2]
    by_cases c : k = s
    · rw [if_pos c, if_pos c, show decide (s = k) = true from decide_eq_true c.symm]; simp
    · rw [if_neg c, if_neg c, show decide (s = k) = false from decide_eq_false (fun z => c z.symm)]; simp
  have kr : ∀ k : Nat, k < sTx P → (f ^^^ (f &&& 1 * 2 ^ s)).testBit k = (if k = s then decide ((2 : Int) = 1) else decide (P 94 k = 1)) ∧ (g ||| 1 * 2 ^ s).testBit k = (if k = s then decide ((2 : Int) = 2) else decide (P 94 k = 2)) := by
    intro k hk
    have := f5 k hk
    rw [tb_or, tb_an, this.1, this.2]
    by_cases c : k = s
    · rw [if_pos c, if_pos c, show decide (s = k) = true from decide_eq_true c.symm]; simp
    · rw [if_neg c, if_neg c, show decide (s = k) = false from decide_eq_false (fun z => c z.symm)]; simp
  have x1 : shc p = 5 := by rcases hp with rfl | rfl <;> rfl
  clear f5 n12 p2
  rcases hr with rfl | rfl
  · simp only [en_PL_fixSeat, e_PL_fixSeat_0, k_PL_fixSeat_0, e_PL_fixSeat_1, k_PL_fixSeat_1, e_PL_fixSeat_2, k_PL_fixSeat_2, e_PL_fixSeat_3, k_PL_fixSeat_3, e_PL_fixSeat_4, k_PL_fixSeat_4, rr, sh, Nat.reduceLT, Nat.reduceMul, Int.reduceToNat, Int.reduceGT, Int.reduceGE, Int.reduceNe, true_and, and_true, true_or, or_true, false_or, or_false, and_self, or_self, if_true, if_false, reduceIte, not_true_eq_false, not_false_eq_true, Int.reduceEq, Int.reduceNe, Int.reduceLT, Int.reduceLE, Int.reduceAdd, Int.reduceSub, Int.reduceMul, Int.reduceNeg, Nat.reduceAdd, Nat.reduceLeDiff, Nat.reduceEqDiff, ne_eq, List.length_cons, List.length_nil, Nat.reduceSub, hs_app, x1, f1, f2, w1, u1, u4]
    refine hQ _ ((Fx.rf.hs (c := p) (j := 4) (sPX_p (by omega))).hs (c := p) (j := 5) (sPX_p (by omega))) (fix_pl (f' := f ||| 1 * 2 ^ s) (g' := g ^^^ (g &&& 1 * 2 ^ s)) hL hs' (fun b h1 h2 => ?_) (fun a h1 h2 => ?_) ?_ hs_same v1 v4 kl)
    · rw [hs2 (fun z => h2 z.2), hs2 (fun z => h1 z.2)]
    · rw [hs_ne (by omega), hs_ne (by omega)]
    · rw [hs2 (fun z => absurd z.2 (by decide))]; exact hs_same
  · simp only [en_PL_fixSeat, e_PL_fixSeat_0, k_PL_fixSeat_0, e_PL_fixSeat_1, k_PL_fixSeat_1, e_PL_fixSeat_2, k_PL_fixSeat_2, e_PL_fixSeat_3, k_PL_fixSeat_3, e_PL_fixSeat_4, k_PL_fixSeat_4, rr, sh, Nat.reduceLT, Nat.reduceMul, Int.reduceToNat, Int.reduceGT, Int.reduceGE, Int.reduceNe, true_and, and_true, true_or, or_true, false_or, or_false, and_self, or_self, if_true, if_false, reduceIte, not_true_eq_false, not_false_eq_true, Int.reduceEq, Int.reduceNe, Int.reduceLT, Int.reduceLE, Int.reduceAdd, Int.reduceSub, Int.reduceMul, Int.reduceNeg, Nat.reduceAdd, Nat.reduceLeDiff, Nat.reduceEqDiff, ne_eq, List.length_cons, List.length_nil, Nat.reduceSub, hs_app, x1, f1, f2, w1, u2, u3]
    refine hQ _ ((Fx.rf.hs (c := p) (j := 4) (sPX_p (by omega))).hs (c := p) (j := 5) (sPX_p (by omega))) (fix_pl (f' := f ^^^ (f &&& 1 * 2 ^ s)) (g' := g ||| 1 * 2 ^ s) hL hs' (fun b h1 h2 => ?_) (fun a h1 h2 => ?_) ?_ hs_same v3 v2 kr)
    · rw [hs2 (fun z => h2 z.2), hs2 (fun z => h1 z.2)]
    · rw [hs_ne (by omega), hs_ne (by omega)]
    · rw [hs2 (fun z => absurd z.2 (by decide))]; exact hs_same
end PD
