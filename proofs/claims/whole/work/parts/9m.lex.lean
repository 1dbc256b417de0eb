/-! THE READING of the tape, both sides: bytes, blanks, words, numbers -/
def tpN (V : Hp) : Nat := (V 2 1).toNat
/-- the byte at k, -1 past the tape -/
def bz (V : Hp) (k : Nat) : Int := if k < tpN V then bt V k else -1
def blB (c : Int) : Bool := decide (c = 10 ∨ c = 32)
def ltB (c : Int) : Bool := decide (97 ≤ c ∧ c ≤ 122)
def dgB (c : Int) : Bool := decide (48 ≤ c ∧ c ≤ 57)
/-- the first place from a on, within f bytes, where p ends -/
def runE (p : Int → Bool) (V : Hp) : Nat → Nat → Nat
  | 0, a => a
  | f + 1, a => if p (bz V a) = true then runE p V f (a + 1) else a
def skE (V : Hp) (a : Nat) : Nat := runE blB V (tpN V - a) a
def weE (V : Hp) (a : Nat) : Nat := runE ltB V (tpN V - a) a
theorem tpN_eq {V : Hp} (hT : TapeR V) : V 2 1 = tpN V := (Int.toNat_of_nonneg hT.1.1).symm
theorem tpN_le {V : Hp} (hT : TapeR V) : tpN V ≤ 1600 := by have := tpN_eq hT; have := hT.1.2; omega
theorem runE_end {p : Int → Bool} {V : Hp} {a : Nat} (h : tpN V ≤ a) : runE p V (tpN V - a) a = a := by
  rw [Nat.sub_eq_zero_of_le h]; rfl
theorem runE_go {p : Int → Bool} {V : Hp} {a : Nat} (h : a < tpN V) (hp : p (bz V a) = true) : runE p V (tpN V - a) a = runE p V (tpN V - (a + 1)) (a + 1) := by
  obtain ⟨f, hf⟩ : ∃ f, tpN V - a = f + 1 := ⟨tpN V - a - 1, by omega⟩
  rw [hf, show tpN V - (a + 1) = f by omega]
  show (if p (bz V a) = true then runE p V f (a + 1) else a) = _
  rw [if_pos hp]
theorem runE_no {p : Int → Bool} {V : Hp} {a : Nat} (hp : p (bz V a) = false) : runE p V (tpN V - a) a = a := by
  cases hf : tpN V - a with
  | zero => rfl
  | succ f =>
    show (if p (bz V a) = true then runE p V f (a + 1) else a) = _
    rw [if_neg (by rw [hp]; decide)]
theorem runE_rng {p : Int → Bool} {V : Hp} : ∀ (f a : Nat), a ≤ runE p V f a ∧ runE p V f a ≤ a + f
  | 0, a => ⟨Nat.le_refl a, Nat.le_refl a⟩
  | f + 1, a => by
    show a ≤ (if p (bz V a) = true then runE p V f (a + 1) else a) ∧ (if p (bz V a) = true then runE p V f (a + 1) else a) ≤ a + (f + 1)
    have := runE_rng (p := p) (V := V) f (a + 1)
    split <;> omega
theorem skE_rng {V : Hp} {a : Nat} (h : a ≤ tpN V) : a ≤ skE V a ∧ skE V a ≤ tpN V := by
  have := runE_rng (p := blB) (V := V) (tpN V - a) a
  unfold skE; omega
theorem weE_rng {V : Hp} {a : Nat} (h : a ≤ tpN V) : a ≤ weE V a ∧ weE V a ≤ tpN V := by
  have := runE_rng (p := ltB) (V := V) (tpN V - a) a
  unfold weE; omega
theorem bz_in {V : Hp} {k : Nat} (h : k < tpN V) : bz V k = bt V k := if_pos h
theorem bz_past {V : Hp} {k : Nat} (h : tpN V ≤ k) : bz V k = -1 := if_neg (Nat.not_lt.mpr h)
theorem bz_rng {V : Hp} (hT : TapeR V) (k : Nat) : -1 ≤ bz V k ∧ bz V k < 256 := by
  by_cases h : k < tpN V
  · rw [bz_in h]
    have := bt_rng hT (k := k) (by rw [tpN_eq hT]; omega)
    omega
  · rw [bz_past (Nat.not_lt.mp h)]; decide
/-- the class's tape as it stood -/
def TpV (V H : Hp) : Prop := H 2 0 = 3 ∧ H 2 1 = V 2 1 ∧ H 3 = V 3
theorem TpV.hs {V H : Hp} {c j v : Int} (h : TpV V H) (hc : c ≠ 3 ∧ ¬ (c = 2 ∧ (j = 0 ∨ j = 1))) : TpV V (hs H c j v) :=
  ⟨(hs2 (fun z => hc.2 ⟨z.1.symm, Or.inl z.2.symm⟩)).trans h.1, (hs2 (fun z => hc.2 ⟨z.1.symm, Or.inr z.2.symm⟩)).trans h.2.1, (hs_ne (fun z => hc.1 z.symm)).trans h.2.2⟩
section LX
variable {d : Nat} {V H : Hp} {Q : AV → Hp → Prop}
theorem q_byteZ (hT : TapeR V) (h : TpV V H) {k : Nat} : CC d TP_byteAt [va 2, vi k] H Q = Q (vi (bz V k)) H := by
  have e := tpN_eq hT
  by_cases hk : k < tpN V
  · rw [bz_in hk]
    exact q_byteAt hT h.1 h.2.1 h.2.2 (by rw [e]; omega)
  · refine CC_dt fun Q hQ => ?_
    rw [bz_past (Nat.not_lt.mp hk)] at hQ
    have c1 : ¬ (k : Int) < 0 := by omega
    have c2 : V 2 1 ≤ (k : Int) := by omega
    simp only [en_TP_byteAt, e_TP_byteAt_0, k_TP_byteAt_0, e_TP_byteAt_1, k_TP_byteAt_1, e_TP_byteAt_2, k_TP_byteAt_2, rr, sh, Nat.reduceLT, Nat.reduceMul, Int.reduceToNat, Int.reduceGT, Int.reduceGE, Int.reduceNe, true_and, and_true, true_or, or_true, false_or, or_false, and_self, or_self, if_true, if_false, reduceIte, not_true_eq_false, not_false_eq_true, Int.reduceEq, Int.reduceNe, Int.reduceLT, Int.reduceLE, Int.reduceAdd, Int.reduceSub, Int.reduceMul, Int.reduceNeg, Nat.reduceAdd, Nat.reduceLeDiff, Nat.reduceEqDiff, ne_eq, List.length_cons, List.length_nil, Nat.reduceSub, h.1, h.2.1, c1, c2]
    exact hQ
theorem q_isBlank {c : Int} : CC d TP_isBlank [vi c] H Q = Q (vi (bI (blB c))) H := by
  refine CC_dt fun Q hQ => ?_
  by_cases h1 : c = 10
  · subst h1
    simp only [en_TP_isBlank, e_TP_isBlank_0, k_TP_isBlank_0, e_TP_isBlank_1, k_TP_isBlank_1, e_TP_isBlank_2, k_TP_isBlank_2, e_TP_isBlank_3, k_TP_isBlank_3, rr, sh, Nat.reduceLT, Nat.reduceMul, Int.reduceToNat, Int.reduceGT, Int.reduceGE, Int.reduceNe, true_and, and_true, true_or, or_true, false_or, or_false, and_self, or_self, if_true, if_false, reduceIte, not_true_eq_false, not_false_eq_true, Int.reduceEq, Int.reduceNe, Int.reduceLT, Int.reduceLE, Int.reduceAdd, Int.reduceSub, Int.reduceMul, Int.reduceNeg, Nat.reduceAdd, Nat.reduceLeDiff, Nat.reduceEqDiff, ne_eq, List.length_cons, List.length_nil, Nat.reduceSub]
    exact hQ
  · by_cases h2 : c = 32
    · subst h2
      simp only [en_TP_isBlank, e_TP_isBlank_0, k_TP_isBlank_0, e_TP_isBlank_1, k_TP_isBlank_1, e_TP_isBlank_2, k_TP_isBlank_2, e_TP_isBlank_3, k_TP_isBlank_3, rr, sh, Nat.reduceLT, Nat.reduceMul, Int.reduceToNat, Int.reduceGT, Int.reduceGE, Int.reduceNe, true_and, and_true, true_or, or_true, false_or, or_false, and_self, or_self, if_true, if_false, reduceIte, not_true_eq_false, not_false_eq_true, Int.reduceEq, Int.reduceNe, Int.reduceLT, Int.reduceLE, Int.reduceAdd, Int.reduceSub, Int.reduceMul, Int.reduceNeg, Nat.reduceAdd, Nat.reduceLeDiff, Nat.reduceEqDiff, ne_eq, List.length_cons, List.length_nil, Nat.reduceSub]
      exact hQ
    · have e : blB c = false := decide_eq_false (by omega)
      rw [e] at hQ
      simp only [en_TP_isBlank, e_TP_isBlank_0, k_TP_isBlank_0, e_TP_isBlank_1, k_TP_isBlank_1, e_TP_isBlank_2, k_TP_isBlank_2, e_TP_isBlank_3, k_TP_isBlank_3, rr, sh, Nat.reduceLT, Nat.reduceMul, Int.reduceToNat, Int.reduceGT, Int.reduceGE, Int.reduceNe, true_and, and_true, true_or, or_true, false_or, or_false, and_self, or_self, if_true, if_false, reduceIte, not_true_eq_false, not_false_eq_true, Int.reduceEq, Int.reduceNe, Int.reduceLT, Int.reduceLE, Int.reduceAdd, Int.reduceSub, Int.reduceMul, Int.reduceNeg, Nat.reduceAdd, Nat.reduceLeDiff, Nat.reduceEqDiff, ne_eq, List.length_cons, List.length_nil, Nat.reduceSub, h1, h2]
      exact hQ
theorem q_isLetterC {c : Int} : CC d TP_isLetter [vi c] H Q = Q (vi (bI (ltB c))) H := by
  refine CC_dt fun Q hQ => ?_
  by_cases h1 : c < 97
  · rw [show ltB c = false from decide_eq_false (by omega)] at hQ
    simp only [en_TP_isLetter, e_TP_isLetter_0, k_TP_isLetter_0, e_TP_isLetter_1, k_TP_isLetter_1, e_TP_isLetter_2, k_TP_isLetter_2, rr, sh, Nat.reduceLT, Nat.reduceMul, Int.reduceToNat, Int.reduceGT, Int.reduceGE, Int.reduceNe, true_and, and_true, true_or, or_true, false_or, or_false, and_self, or_self, if_true, if_false, reduceIte, not_true_eq_false, not_false_eq_true, Int.reduceEq, Int.reduceNe, Int.reduceLT, Int.reduceLE, Int.reduceAdd, Int.reduceSub, Int.reduceMul, Int.reduceNeg, Nat.reduceAdd, Nat.reduceLeDiff, Nat.reduceEqDiff, ne_eq, List.length_cons, List.length_nil, Nat.reduceSub, h1]
    exact hQ
  · by_cases h2 : 122 < c
    · rw [show ltB c = false from decide_eq_false (by omega)] at hQ
      simp only [en_TP_isLetter, e_TP_isLetter_0, k_TP_isLetter_0, e_TP_isLetter_1, k_TP_isLetter_1, e_TP_isLetter_2, k_TP_isLetter_2, rr, sh, Nat.reduceLT, Nat.reduceMul, Int.reduceToNat, Int.reduceGT, Int.reduceGE, Int.reduceNe, true_and, and_true, true_or, or_true, false_or, or_false, and_self, or_self, if_true, if_false, reduceIte, not_true_eq_false, not_false_eq_true, Int.reduceEq, Int.reduceNe, Int.reduceLT, Int.reduceLE, Int.reduceAdd, Int.reduceSub, Int.reduceMul, Int.reduceNeg, Nat.reduceAdd, Nat.reduceLeDiff, Nat.reduceEqDiff, ne_eq, List.length_cons, List.length_nil, Nat.reduceSub, h1, h2]
      exact hQ
    · rw [show ltB c = true from decide_eq_true (by omega)] at hQ
      simp only [en_TP_isLetter, e_TP_isLetter_0, k_TP_isLetter_0, e_TP_isLetter_1, k_TP_isLetter_1, e_TP_isLetter_2, k_TP_isLetter_2, rr, sh, Nat.reduceLT, Nat.reduceMul, Int.reduceToNat, Int.reduceGT, Int.reduceGE, Int.reduceNe, true_and, and_true, true_or, or_true, false_or, or_false, and_self, or_self, if_true, if_false, reduceIte, not_true_eq_false, not_false_eq_true, Int.reduceEq, Int.reduceNe, Int.reduceLT, Int.reduceLE, Int.reduceAdd, Int.reduceSub, Int.reduceMul, Int.reduceNeg, Nat.reduceAdd, Nat.reduceLeDiff, Nat.reduceEqDiff, ne_eq, List.length_cons, List.length_nil, Nat.reduceSub, h1, h2]
      exact hQ
theorem q_isDigitC {c : Int} : CC d TP_isDigit [vi c] H Q = Q (vi (bI (dgB c))) H := by
  refine CC_dt fun Q hQ => ?_
  by_cases h1 : c < 48
  · rw [show dgB c = false from decide_eq_false (by omega)] at hQ
    simp only [en_TP_isDigit, e_TP_isDigit_0, k_TP_isDigit_0, e_TP_isDigit_1, k_TP_isDigit_1, e_TP_isDigit_2, k_TP_isDigit_2, rr, sh, Nat.reduceLT, Nat.reduceMul, Int.reduceToNat, Int.reduceGT, Int.reduceGE, Int.reduceNe, true_and, and_true, true_or, or_true, false_or, or_false, and_self, or_self, if_true, if_false, reduceIte, not_true_eq_false, not_false_eq_true, Int.reduceEq, Int.reduceNe, Int.reduceLT, Int.reduceLE, Int.reduceAdd, Int.reduceSub, Int.reduceMul, Int.reduceNeg, Nat.reduceAdd, Nat.reduceLeDiff, Nat.reduceEqDiff, ne_eq, List.length_cons, List.length_nil, Nat.reduceSub, h1]
    exact hQ
  · by_cases h2 : 57 < c
    · rw [show dgB c = false from decide_eq_false (by omega)] at hQ
      simp only [en_TP_isDigit, e_TP_isDigit_0, k_TP_isDigit_0, e_TP_isDigit_1, k_TP_isDigit_1, e_TP_isDigit_2, k_TP_isDigit_2, rr, sh, Nat.reduceLT, Nat.reduceMul, Int.reduceToNat, Int.reduceGT, Int.reduceGE, Int.reduceNe, true_and, and_true, true_or, or_true, false_or, or_false, and_self, or_self, if_true, if_false, reduceIte, not_true_eq_false, not_false_eq_true, Int.reduceEq, Int.reduceNe, Int.reduceLT, Int.reduceLE, Int.reduceAdd, Int.reduceSub, Int.reduceMul, Int.reduceNeg, Nat.reduceAdd, Nat.reduceLeDiff, Nat.reduceEqDiff, ne_eq, List.length_cons, List.length_nil, Nat.reduceSub, h1, h2]
      exact hQ
    · rw [show dgB c = true from decide_eq_true (by omega)] at hQ
      simp only [en_TP_isDigit, e_TP_isDigit_0, k_TP_isDigit_0, e_TP_isDigit_1, k_TP_isDigit_1, e_TP_isDigit_2, k_TP_isDigit_2, rr, sh, Nat.reduceLT, Nat.reduceMul, Int.reduceToNat, Int.reduceGT, Int.reduceGE, Int.reduceNe, true_and, and_true, true_or, or_true, false_or, or_false, and_self, or_self, if_true, if_false, reduceIte, not_true_eq_false, not_false_eq_true, Int.reduceEq, Int.reduceNe, Int.reduceLT, Int.reduceLE, Int.reduceAdd, Int.reduceSub, Int.reduceMul, Int.reduceNeg, Nat.reduceAdd, Nat.reduceLeDiff, Nat.reduceEqDiff, ne_eq, List.length_cons, List.length_nil, Nat.reduceSub, h1, h2]
      exact hQ
theorem q_isLetterM {c : Int} : CC d MO_isLetter [vi c] H Q = Q (vi (bI (ltB c))) H := by
  refine CC_dt fun Q hQ => ?_
  by_cases h1 : c < 97
  · rw [show ltB c = false from decide_eq_false (by omega)] at hQ
    simp only [en_MO_isLetter, e_MO_isLetter_0, k_MO_isLetter_0, e_MO_isLetter_1, k_MO_isLetter_1, e_MO_isLetter_2, k_MO_isLetter_2, rr, sh, Nat.reduceLT, Nat.reduceMul, Int.reduceToNat, Int.reduceGT, Int.reduceGE, Int.reduceNe, true_and, and_true, true_or, or_true, false_or, or_false, and_self, or_self, if_true, if_false, reduceIte, not_true_eq_false, not_false_eq_true, Int.reduceEq, Int.reduceNe, Int.reduceLT, Int.reduceLE, Int.reduceAdd, Int.reduceSub, Int.reduceMul, Int.reduceNeg, Nat.reduceAdd, Nat.reduceLeDiff, Nat.reduceEqDiff, ne_eq, List.length_cons, List.length_nil, Nat.reduceSub, h1]
    exact hQ
  · by_cases h2 : 122 < c
    · rw [show ltB c = false from decide_eq_false (by omega)] at hQ
      simp only [en_MO_isLetter, e_MO_isLetter_0, k_MO_isLetter_0, e_MO_isLetter_1, k_MO_isLetter_1, e_MO_isLetter_2, k_MO_isLetter_2, rr, sh, Nat.reduceLT, Nat.reduceMul, Int.reduceToNat, Int.reduceGT, Int.reduceGE, Int.reduceNe, true_and, and_true, true_or, or_true, false_or, or_false, and_self, or_self, if_true, if_false, reduceIte, not_true_eq_false, not_false_eq_true, Int.reduceEq, Int.reduceNe, Int.reduceLT, Int.reduceLE, Int.reduceAdd, Int.reduceSub, Int.reduceMul, Int.reduceNeg, Nat.reduceAdd, Nat.reduceLeDiff, Nat.reduceEqDiff, ne_eq, List.length_cons, List.length_nil, Nat.reduceSub, h1, h2]
      exact hQ
    · rw [show ltB c = true from decide_eq_true (by omega)] at hQ
      simp only [en_MO_isLetter, e_MO_isLetter_0, k_MO_isLetter_0, e_MO_isLetter_1, k_MO_isLetter_1, e_MO_isLetter_2, k_MO_isLetter_2, rr, sh, Nat.reduceLT, Nat.reduceMul, Int.reduceToNat, Int.reduceGT, Int.reduceGE, Int.reduceNe, true_and, and_true, true_or, or_true, false_or, or_false, and_self, or_self, if_true, if_false, reduceIte, not_true_eq_false, not_false_eq_true, Int.reduceEq, Int.reduceNe, Int.reduceLT, Int.reduceLE, Int.reduceAdd, Int.reduceSub, Int.reduceMul, Int.reduceNeg, Nat.reduceAdd, Nat.reduceLeDiff, Nat.reduceEqDiff, ne_eq, List.length_cons, List.length_nil, Nat.reduceSub, h1, h2]
      exact hQ
theorem q_isDigitM {c : Int} : CC d MO_isDigit [vi c] H Q = Q (vi (bI (dgB c))) H := by
  refine CC_dt fun Q hQ => ?_
  by_cases h1 : c < 48
  · rw [show dgB c = false from decide_eq_false (by omega)] at hQ
    simp only [en_MO_isDigit, e_MO_isDigit_0, k_MO_isDigit_0, e_MO_isDigit_1, k_MO_isDigit_1, e_MO_isDigit_2, k_MO_isDigit_2, rr, sh, Nat.reduceLT, Nat.reduceMul, Int.reduceToNat, Int.reduceGT, Int.reduceGE, Int.reduceNe, true_and, and_true, true_or, or_true, false_or, or_false, and_self, or_self, if_true, if_false, reduceIte, not_true_eq_false, not_false_eq_true, Int.reduceEq, Int.reduceNe, Int.reduceLT, Int.reduceLE, Int.reduceAdd, Int.reduceSub, Int.reduceMul, Int.reduceNeg, Nat.reduceAdd, Nat.reduceLeDiff, Nat.reduceEqDiff, ne_eq, List.length_cons, List.length_nil, Nat.reduceSub, h1]
    exact hQ
  · by_cases h2 : 57 < c
    · rw [show dgB c = false from decide_eq_false (by omega)] at hQ
      simp only [en_MO_isDigit, e_MO_isDigit_0, k_MO_isDigit_0, e_MO_isDigit_1, k_MO_isDigit_1, e_MO_isDigit_2, k_MO_isDigit_2, rr, sh, Nat.reduceLT, Nat.reduceMul, Int.reduceToNat, Int.reduceGT, Int.reduceGE, Int.reduceNe, true_and, and_true, true_or, or_true, false_or, or_false, and_self, or_self, if_true, if_false, reduceIte, not_true_eq_false, not_false_eq_true, Int.reduceEq, Int.reduceNe, Int.reduceLT, Int.reduceLE, Int.reduceAdd, Int.reduceSub, Int.reduceMul, Int.reduceNeg, Nat.reduceAdd, Nat.reduceLeDiff, Nat.reduceEqDiff, ne_eq, List.length_cons, List.length_nil, Nat.reduceSub, h1, h2]
      exact hQ
    · rw [show dgB c = true from decide_eq_true (by omega)] at hQ
      simp only [en_MO_isDigit, e_MO_isDigit_0, k_MO_isDigit_0, e_MO_isDigit_1, k_MO_isDigit_1, e_MO_isDigit_2, k_MO_isDigit_2, rr, sh, Nat.reduceLT, Nat.reduceMul, Int.reduceToNat, Int.reduceGT, Int.reduceGE, Int.reduceNe, true_and, and_true, true_or, or_true, false_or, or_false, and_self, or_self, if_true, if_false, reduceIte, not_true_eq_false, not_false_eq_true, Int.reduceEq, Int.reduceNe, Int.reduceLT, Int.reduceLE, Int.reduceAdd, Int.reduceSub, Int.reduceMul, Int.reduceNeg, Nat.reduceAdd, Nat.reduceLeDiff, Nat.reduceEqDiff, ne_eq, List.length_cons, List.length_nil, Nat.reduceSub, h1, h2]
      exact hQ
end LX
