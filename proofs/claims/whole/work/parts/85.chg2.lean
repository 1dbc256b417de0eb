/-! changes: the reference tries all acts -/
def trn (V : Hp) (s : Nat) : Hp := hs V 71 49 ((sdV V ^^^ 1 * 2 ^ s : Nat) : Int)
def RgtV (V : Hp) : Prop := lawB V (sdV V) = true ∧ goodB V (sdV V) (V 71 47) = true
def aA (n i : Nat) : Nat := (i - n) / n
def aB (n i : Nat) : Nat := (i - n) % n
def actP (V : Hp) (i : Nat) : Prop := (i < nS V ∧ V 94 (12 + i) = 0) ∨ (nS V ≤ i ∧ aA (nS V) i < aB (nS V) i ∧ aB (nS V) i < nS V ∧ (V 107 (aA (nS V) i : Nat) ≠ -1 ∨ V 107 (aB (nS V) i : Nat) ≠ -1))
def actD (V : Hp) (i : Nat) : Hp := if i < nS V then trn V i else swp V (aA (nS V) i) (aB (nS V) i)
def Rch : Nat → Hp → Prop
  | 0, V => RgtV V
  | m + 1, V => ∃ i, i < nS V + nS V * nS V ∧ actP V i ∧ Rch m (actD V i)
theorem trn_c {V : Hp} {s : Nat} {c : Int} (h : c ≠ 71) : trn V s c = V c := hs_ne h
theorem trn_j {V : Hp} {s : Nat} {j : Int} (h : j ≠ 49) : trn V s 71 j = V 71 j := hs2 (fun z => h z.2)
theorem trn_sd {V : Hp} {s : Nat} : sdV (trn V s) = sdV V ^^^ 1 * 2 ^ s := by unfold sdV trn; rw [hs_same, Int.toNat_natCast]; rfl
theorem trn_S {V : Hp} {s : Nat} : nS (trn V s) = nS V := by unfold nS nN; rw [trn_c (by decide)]
theorem swp_S {V : Hp} {a b : Nat} : nS (swp V a b) = nS V := by unfold nS nN; rw [swp_c (by decide)]
theorem swp_sd {V : Hp} {a b : Nat} : sdV (swp V a b) = sdV V := by unfold sdV; rw [swp_c (by decide)]
theorem trn_two {V : Hp} (hM : Inm V) {s : Nat} : trn (trn V s) s = V := by
  funext x y
  show hs (trn V s) 71 49 ((sdV (trn V s) ^^^ 1 * 2 ^ s : Nat) : Int) x y = _
  rw [trn_sd, xor_two, hs_app]
  by_cases h : x = 71 ∧ y = 49
  · rw [if_pos h, h.1, h.2]; exact hM.crew.sides.1.symm
  · rw [if_neg h]; unfold trn; rw [hs2 h]
theorem swp_swp {V : Hp} {a b : Nat} (hab : a ≠ b) : swp (swp V a b) a b = V := swp_back hab
theorem actD_S {V : Hp} {i : Nat} : nS (actD V i) = nS V := by unfold actD; split; exact trn_S; exact swp_S
theorem actD_two {V : Hp} (hM : Inm V) {i : Nat} (h : actP V i) : actD (actD V i) i = V := by
  unfold actD
  rcases h with ⟨h1, h2⟩ | ⟨h1, h2, h3, h4⟩
  · rw [if_pos h1, if_pos (by rw [trn_S]; exact h1)]; exact trn_two hM
  · rw [if_neg (Nat.not_lt.mpr h1), if_neg (by rw [swp_S]; exact Nat.not_lt.mpr h1), swp_S]
    exact swp_swp (Nat.ne_of_lt h2)
theorem actP_two {V : Hp} {i : Nat} (h : actP V i) : actP (actD V i) i := by
  unfold actP
  rw [actD_S]
  unfold actD
  rcases h with ⟨h1, h2⟩ | ⟨h1, h2, h3, h4⟩
  · left
    rw [if_pos h1, trn_c (by decide)]
    exact ⟨h1, h2⟩
  · right
    rw [if_neg (Nat.not_lt.mpr h1), swp_107 (Nat.ne_of_lt h2), swp_107 (Nat.ne_of_lt h2), if_pos rfl, if_neg (fun z => Nat.ne_of_lt h2 z.symm), if_pos rfl]
    exact ⟨h1, h2, h3, h4.symm⟩
theorem trn_inm {V : Hp} (hM : Inm V) {s : Nat} (hs' : s < nS V) : Inm (trn V s) := by
  have hP : Ptr (trn V s) := by
    have hs : ptL.all (fun q => decide (q.1 ≠ 71) || decide (q.2.1 ≠ 49)) = true := by decide +kernel
    intro q hq
    have := List.all_eq_true.mp hs q hq
    simp only [Bool.or_eq_true, decide_eq_true_eq] at this
    unfold trn
    rw [hs2 (fun z => this.elim (fun h => h z.1) (fun h => h z.2))]
    exact hM.ptr q hq
  have hm := hM.crew
  have eR : nR (trn V s) = nR V := by unfold nR nN; rw [trn_c (by decide)]
  refine ⟨hP, hM.boat.cg (fun a h1 h2 => trn_c (by omega)) (trn_j (by decide)), by rw [trn_j (by decide)]; exact hm.1, ?_, by rw [trn_c (by decide), eR, trn_S]; exact hm.sits, by rw [show trn V s 107 = V 107 from trn_c (by decide), trn_S, show trn V s 96 = V 96 from trn_c (by decide), show trn V s 97 = V 97 from trn_c (by decide)]; exact hm.off, by rw [trn_j (by decide)]; exact hm.seed, by rw [trn_j (by decide)]; exact hm.2.2.2.2.2⟩
  rw [trn_sd, trn_S]
  exact ⟨hs_same, nlt_xor hm.sides.2 (by rw [Nat.one_mul]; exact Nat.pow_lt_pow_right (by decide) hs')⟩
theorem actD_inm {V : Hp} (hM : Inm V) {i : Nat} (h : actP V i) : Inm (actD V i) := by
  unfold actD
  rcases h with ⟨h1, h2⟩ | ⟨h1, h2, h3, h4⟩
  · rw [if_pos h1]; exact trn_inm hM h1
  · rw [if_neg (Nat.not_lt.mpr h1)]; exact swp_inm hM (Nat.lt_trans h2 h3) h3 (Nat.ne_of_lt h2)
section RC
variable {d : Nat} {V H : Hp} {Q : AV → Hp → Prop}
theorem q_isFixedM (hM : Inm V) (hH : Vw V H) {k : Nat} (hk : k < nS V) : CC d MO_isFixed [va 71, vi k] H Q = Q (vi (if V 94 (12 + k) = 0 then 0 else 1)) H := by
  have hn := hM.boat.s
  have p32 : H 71 32 = 94 := (hH 71 32 rfl).trans (hM.ptr (71, 32, 94) (by decide +kernel))
  have c94 : H 94 = V 94 := funext fun j => hH 94 j rfl
  have w8 : w32 (12 + (k : Int)) = 12 + k := w32_id (by omega) (by omega)
  have j1 : 0 ≤ 12 + (k : Int) ∧ 12 + (k : Int) < 24 := by omega
  by_cases h : V 94 (12 + k) = 0
  · simp only [en_MO_isFixed, e_MO_isFixed_0, k_MO_isFixed_0, e_MO_isFixed_1, k_MO_isFixed_1, e_MO_isFixed_2, k_MO_isFixed_2, rr, sh, Nat.reduceLT, Nat.reduceMul, Int.reduceToNat, Int.reduceGT, Int.reduceGE, Int.reduceNe, true_and, and_true, true_or, or_true, false_or, or_false, and_self, or_self, if_true, if_false, reduceIte, not_true_eq_false, not_false_eq_true, Int.reduceEq, Int.reduceNe, Int.reduceLT, Int.reduceLE, Int.reduceAdd, Int.reduceSub, Int.reduceMul, Int.reduceNeg, Nat.reduceAdd, Nat.reduceLeDiff, Nat.reduceEqDiff, ne_eq, List.length_cons, List.length_nil, Nat.reduceSub, p32, c94, w8, j1, h]
  · simp only [en_MO_isFixed, e_MO_isFixed_0, k_MO_isFixed_0, e_MO_isFixed_1, k_MO_isFixed_1, e_MO_isFixed_2, k_MO_isFixed_2, rr, sh, Nat.reduceLT, Nat.reduceMul, Int.reduceToNat, Int.reduceGT, Int.reduceGE, Int.reduceNe, true_and, and_true, true_or, or_true, false_or, or_false, and_self, or_self, if_true, if_false, reduceIte, not_true_eq_false, not_false_eq_true, Int.reduceEq, Int.reduceNe, Int.reduceLT, Int.reduceLE, Int.reduceAdd, Int.reduceSub, Int.reduceMul, Int.reduceNeg, Nat.reduceAdd, Nat.reduceLeDiff, Nat.reduceEqDiff, ne_eq, List.length_cons, List.length_nil, Nat.reduceSub, p32, c94, w8, j1, h]
set_option maxRecDepth 20000 in
theorem c_acts (hM : Inm V) (hH : Vw V H) {i : Nat} (hi : i < nS V + nS V * nS V) (h0 : ¬ actP V i → Q (vi 0) H) (h1 : actP V i → ∀ H', Vw (actD V i) H' → Q (vi 1) H') : CC (d + 3) MO_acts [va 71, vi i] H Q := by
  have hn := hM.boat.s
  have hnn : nS V * nS V ≤ 12 * 12 := Nat.mul_le_mul hn.2 hn.2
  have p29 : H 71 29 = 91 := (hH 71 29 rfl).trans (hM.ptr (71, 29, 91) (by decide +kernel))
  have p50 : H 71 50 = 107 := (hH 71 50 rfl).trans (hM.ptr (71, 50, 107) (by decide +kernel))
  have c91 : H 91 = V 91 := funext fun j => hH 91 j rfl
  have c107 : H 107 = V 107 := funext fun j => hH 107 j rfl
  have e49 : H 71 49 = sdV V := (hH 71 49 rfl).trans hM.crew.sides.1
  by_cases c : i < nS V
  · have c' : ¬ (nS V : Int) ≤ i := Int.not_le.mpr (Int.ofNat_lt.mpr c)
    by_cases hf : V 94 (12 + i) = 0
    · have hb := sdV_lt hM
      have i11 : i ≤ 11 := Nat.le_of_lt_succ (Nat.lt_of_lt_of_le c hn.2)
      have hp : (1 : Nat) * 2 ^ i < 4096 := by
        rw [Nat.one_mul]
        exact Nat.lt_of_le_of_lt (Nat.pow_le_pow_right (n := 2) (j := 11) (by decide) i11) (by decide)
      have w1 : b_shl 1 i = ((1 * 2 ^ i : Nat) : Int) := b_shl_nat (a := 1) (Nat.lt_of_le_of_lt i11 (by decide)) (Nat.lt_trans hp (by decide))
      have w2 : b_xor (sdV V : Int) ((1 * 2 ^ i : Nat) : Int) = ((sdV V ^^^ 1 * 2 ^ i : Nat) : Int) := b_xor_nat (Nat.lt_trans hb (by decide)) (Nat.lt_trans hp (by decide))
      simp only [en_MO_acts, e_MO_acts_0, k_MO_acts_0, e_MO_acts_1, k_MO_acts_1, en_MO_seats, e_MO_seats_0, k_MO_seats_0, rr, sh, Nat.reduceLT, Nat.reduceMul, Int.reduceToNat, Int.reduceGT, Int.reduceGE, Int.reduceNe, true_and, and_true, true_or, or_true, false_or, or_false, and_self, or_self, if_true, if_false, reduceIte, not_true_eq_false, not_false_eq_true, Int.reduceEq, Int.reduceNe, Int.reduceLT, Int.reduceLE, Int.reduceAdd, Int.reduceSub, Int.reduceMul, Int.reduceNeg, Nat.reduceAdd, Nat.reduceLeDiff, Nat.reduceEqDiff, ne_eq, List.length_cons, List.length_nil, Nat.reduceSub, p29, c91, hn.1, c', q_isFixedM hM hH c, hf, e49, w1, w2]
      refine h1 (Or.inl ⟨c, hf⟩) _ ?_
      unfold actD
      rw [if_pos c]
      exact vw_both hH
    · simp only [en_MO_acts, e_MO_acts_0, k_MO_acts_0, e_MO_acts_1, k_MO_acts_1, en_MO_seats, e_MO_seats_0, k_MO_seats_0, rr, sh, Nat.reduceLT, Nat.reduceMul, Int.reduceToNat, Int.reduceGT, Int.reduceGE, Int.reduceNe, true_and, and_true, true_or, or_true, false_or, or_false, and_self, or_self, if_true, if_false, reduceIte, not_true_eq_false, not_false_eq_true, Int.reduceEq, Int.reduceNe, Int.reduceLT, Int.reduceLE, Int.reduceAdd, Int.reduceSub, Int.reduceMul, Int.reduceNeg, Nat.reduceAdd, Nat.reduceLeDiff, Nat.reduceEqDiff, ne_eq, List.length_cons, List.length_nil, Nat.reduceSub, p29, c91, hn.1, c', q_isFixedM hM hH c, hf]
      refine h0 fun z => ?_
      rcases z with ⟨z1, z2⟩ | ⟨z1, -⟩
      · exact hf z2
      · exact absurd c (Nat.not_lt.mpr z1)
  · have c' : (nS V : Int) ≤ i := Int.ofNat_le.mpr (Nat.not_lt.mp c)
    have n0 : 0 < nS V := by
      rcases Nat.eq_zero_or_pos (nS V) with z | z
      · rw [z] at hi; exact absurd hi (Nat.not_lt_zero i)
      · exact z
    have n0' : ¬ (nS V : Int) = 0 := fun z => Nat.ne_of_gt n0 (Int.ofNat_inj.mp z)
    have eB : aB (nS V) i < nS V := Nat.mod_lt _ n0
    have eA : aA (nS V) i < nS V := by
      unfold aA
      exact Nat.div_lt_of_lt_mul (Nat.sub_lt_left_of_lt_add (Nat.not_lt.mp c) hi)
    have hib : i < 200 := by clear h0 h1 hH hM p29 p50 c91 c107 e49 c' n0' eB eA; generalize nS V * nS V = y at hnn hi; omega
    have hn12 : nS V ≤ 12 := hn.2
    have hic : nS V ≤ i := Nat.not_lt.mp c
    have hsb : ((i : Int) - nS V) = ((i - nS V : Nat) : Int) := by clear h0 h1 hH hM p29 p50 c91 c107 e49 c' n0' eB eA hi hnn; omega
    have hb2 : i - nS V < 200 := Nat.lt_of_le_of_lt (Nat.sub_le _ _) hib
    have w1 : w32 ((i : Int) - nS V) = ((i - nS V : Nat) : Int) := by rw [hsb]; exact w32_nat (Nat.lt_trans hb2 (by decide))
    have w2 : w32 (((i - nS V : Nat) : Int).tdiv (nS V)) = (aA (nS V) i : Nat) := by
      rw [Int.tdiv_eq_ediv_of_nonneg (Int.natCast_nonneg _), show ((i - nS V : Nat) : Int) / (nS V : Int) = ((aA (nS V) i : Nat) : Int) by unfold aA; norm_cast]
      exact w32_nat (Nat.lt_trans (Nat.lt_of_lt_of_le eA hn12) (by decide))
    have w3 : w32 (((i - nS V : Nat) : Int).tmod (nS V)) = (aB (nS V) i : Nat) := by
      rw [Int.tmod_eq_emod_of_nonneg (Int.natCast_nonneg _), show ((i - nS V : Nat) : Int) % (nS V : Int) = ((aB (nS V) i : Nat) : Int) from (Int.natCast_emod (i - nS V) (nS V)).symm]
      exact w32_nat (Nat.lt_trans (Nat.lt_of_lt_of_le eB hn12) (by decide))
    have hno : ¬ i < nS V := c
    have hP : actP V i ↔ (aA (nS V) i < aB (nS V) i ∧ (V 107 (aA (nS V) i : Nat) ≠ -1 ∨ V 107 (aB (nS V) i : Nat) ≠ -1)) := by
      constructor
      · rintro (⟨z1, -⟩ | ⟨-, z2, -, z4⟩)
        · exact absurd z1 c
        · exact ⟨z2, z4⟩
      · rintro ⟨z2, z4⟩
        exact Or.inr ⟨Nat.not_lt.mp c, z2, eB, z4⟩
    have eD : actD V i = swp V (aA (nS V) i) (aB (nS V) i) := by unfold actD; rw [if_neg c]
    rw [hP] at h0 h1
    rw [eD] at h1
    generalize aA (nS V) i = a at *
    generalize aB (nS V) i = b at *
    by_cases hab : a < b
    · have hab' : ¬ (b : Int) ≤ a := Int.not_le.mpr (Int.ofNat_lt.mpr hab)
      have ja : 0 ≤ (a : Int) ∧ (a : Int) < 12 := ⟨Int.natCast_nonneg _, Int.ofNat_lt.mpr (Nat.lt_of_lt_of_le eA hn12)⟩
      have jb : 0 ≤ (b : Int) ∧ (b : Int) < 12 := ⟨Int.natCast_nonneg _, Int.ofNat_lt.mpr (Nat.lt_of_lt_of_le eB hn12)⟩
      by_cases hc : V 107 a ≠ -1 ∨ V 107 b ≠ -1
      · have hsw : swOk V a b := ⟨⟨Int.natCast_nonneg _, Int.ofNat_lt.mpr eA⟩, ⟨Int.natCast_nonneg _, Int.ofNat_lt.mpr eB⟩, fun z => Nat.ne_of_lt hab (Int.ofNat_inj.mp z), hc⟩
        simp only [en_MO_acts, e_MO_acts_0, k_MO_acts_0, e_MO_acts_2, k_MO_acts_2, e_MO_acts_3, k_MO_acts_3, e_MO_acts_4, k_MO_acts_4, en_MO_seats, e_MO_seats_0, k_MO_seats_0, rr, sh, Nat.reduceLT, Nat.reduceMul, Int.reduceToNat, Int.reduceGT, Int.reduceGE, Int.reduceNe, true_and, and_true, true_or, or_true, false_or, or_false, and_self, or_self, if_true, if_false, reduceIte, not_true_eq_false, not_false_eq_true, Int.reduceEq, Int.reduceNe, Int.reduceLT, Int.reduceLE, Int.reduceAdd, Int.reduceSub, Int.reduceMul, Int.reduceNeg, Nat.reduceAdd, Nat.reduceLeDiff, Nat.reduceEqDiff, ne_eq, List.length_cons, List.length_nil, Nat.reduceSub, p29, c91, hn.1, c', n0', w1, w2, w3, hab', q_canSwap hM hH, if_pos hsw, q_changesSeats p50 ja jb]
        refine h1 ⟨hab, hc⟩ _ ?_
        exact swp_vw hH (a := a) (b := b)
      · have hsw : ¬ swOk V a b := fun z => hc z.2.2.2
        simp only [en_MO_acts, e_MO_acts_0, k_MO_acts_0, e_MO_acts_2, k_MO_acts_2, e_MO_acts_3, k_MO_acts_3, e_MO_acts_4, k_MO_acts_4, en_MO_seats, e_MO_seats_0, k_MO_seats_0, rr, sh, Nat.reduceLT, Nat.reduceMul, Int.reduceToNat, Int.reduceGT, Int.reduceGE, Int.reduceNe, true_and, and_true, true_or, or_true, false_or, or_false, and_self, or_self, if_true, if_false, reduceIte, not_true_eq_false, not_false_eq_true, Int.reduceEq, Int.reduceNe, Int.reduceLT, Int.reduceLE, Int.reduceAdd, Int.reduceSub, Int.reduceMul, Int.reduceNeg, Nat.reduceAdd, Nat.reduceLeDiff, Nat.reduceEqDiff, ne_eq, List.length_cons, List.length_nil, Nat.reduceSub, p29, c91, hn.1, c', n0', w1, w2, w3, hab', q_canSwap hM hH, if_neg hsw]
        exact h0 fun z => hc z.2
    · have hab' : (b : Int) ≤ a := Int.ofNat_le.mpr (Nat.not_lt.mp hab)
      simp only [en_MO_acts, e_MO_acts_0, k_MO_acts_0, e_MO_acts_2, k_MO_acts_2, e_MO_acts_3, k_MO_acts_3, en_MO_seats, e_MO_seats_0, k_MO_seats_0, rr, sh, Nat.reduceLT, Nat.reduceMul, Int.reduceToNat, Int.reduceGT, Int.reduceGE, Int.reduceNe, true_and, and_true, true_or, or_true, false_or, or_false, and_self, or_self, if_true, if_false, reduceIte, not_true_eq_false, not_false_eq_true, Int.reduceEq, Int.reduceNe, Int.reduceLT, Int.reduceLE, Int.reduceAdd, Int.reduceSub, Int.reduceMul, Int.reduceNeg, Nat.reduceAdd, Nat.reduceLeDiff, Nat.reduceEqDiff, ne_eq, List.length_cons, List.length_nil, Nat.reduceSub, p29, c91, hn.1, c', n0', w1, w2, w3, hab']
      exact h0 fun z => hab z.1
theorem actMany_w (hM : Inm V) : w32 ((nS V : Int) + w32 ((nS V : Int) * (nS V : Int))) = ((nS V + nS V * nS V : Nat) : Int) := by
  have hn := hM.boat.s
  have hnn : nS V * nS V ≤ 12 * 12 := Nat.mul_le_mul hn.2 hn.2
  have e : (nS V : Int) * (nS V : Int) = ((nS V * nS V : Nat) : Int) := by norm_cast
  rw [e]
  generalize nS V * nS V = y at hnn ⊢
  rw [w32_id (x := (y : Int)) (by omega) (by omega), w32_id (by omega) (by omega)]
  omega
theorem c_isRight (hM : Inm V) (hH : Vw V H) (h1 : RgtV V → Q (vi 1) H) (h0 : ¬ RgtV V → Q (vi 0) H) : CC (d + 4) MO_isRight [va 71] H Q := by
  have e49 : H 71 49 = sdV V := (hH 71 49 rfl).trans hM.crew.sides.1
  have hb := sdV_lt hM
  by_cases a1 : lawB V (sdV V) = true
  · by_cases a2 : goodB V (sdV V) (V 71 47) = true
    · simp only [en_MO_isRight, e_MO_isRight_0, k_MO_isRight_0, e_MO_isRight_1, k_MO_isRight_1, e_MO_isRight_2, k_MO_isRight_2, rr, sh, Nat.reduceLT, Nat.reduceMul, Int.reduceToNat, Int.reduceGT, Int.reduceGE, Int.reduceNe, true_and, and_true, true_or, or_true, false_or, or_false, and_self, or_self, if_true, if_false, reduceIte, not_true_eq_false, not_false_eq_true, Int.reduceEq, Int.reduceNe, Int.reduceLT, Int.reduceLE, Int.reduceAdd, Int.reduceSub, Int.reduceMul, Int.reduceNeg, Nat.reduceAdd, Nat.reduceLeDiff, Nat.reduceEqDiff, ne_eq, List.length_cons, List.length_nil, Nat.reduceSub, e49, q_isLawful hM hH hb, q_isGoodM hM hH hb, if_pos a1, if_pos a2]
      exact h1 ⟨a1, a2⟩
    · simp only [en_MO_isRight, e_MO_isRight_0, k_MO_isRight_0, e_MO_isRight_1, k_MO_isRight_1, e_MO_isRight_2, k_MO_isRight_2, rr, sh, Nat.reduceLT, Nat.reduceMul, Int.reduceToNat, Int.reduceGT, Int.reduceGE, Int.reduceNe, true_and, and_true, true_or, or_true, false_or, or_false, and_self, or_self, if_true, if_false, reduceIte, not_true_eq_false, not_false_eq_true, Int.reduceEq, Int.reduceNe, Int.reduceLT, Int.reduceLE, Int.reduceAdd, Int.reduceSub, Int.reduceMul, Int.reduceNeg, Nat.reduceAdd, Nat.reduceLeDiff, Nat.reduceEqDiff, ne_eq, List.length_cons, List.length_nil, Nat.reduceSub, e49, q_isLawful hM hH hb, q_isGoodM hM hH hb, if_pos a1, if_neg a2]
      exact h0 fun z => a2 z.2
  · simp only [en_MO_isRight, e_MO_isRight_0, k_MO_isRight_0, e_MO_isRight_1, k_MO_isRight_1, e_MO_isRight_2, k_MO_isRight_2, rr, sh, Nat.reduceLT, Nat.reduceMul, Int.reduceToNat, Int.reduceGT, Int.reduceGE, Int.reduceNe, true_and, and_true, true_or, or_true, false_or, or_false, and_self, or_self, if_true, if_false, reduceIte, not_true_eq_false, not_false_eq_true, Int.reduceEq, Int.reduceNe, Int.reduceLT, Int.reduceLE, Int.reduceAdd, Int.reduceSub, Int.reduceMul, Int.reduceNeg, Nat.reduceAdd, Nat.reduceLeDiff, Nat.reduceEqDiff, ne_eq, List.length_cons, List.length_nil, Nat.reduceSub, e49, q_isLawful hM hH hb, if_neg a1]
    exact h0 fun z => a1 z.1
set_option maxRecDepth 20000 in
theorem c_isOneOff (hM : Inm V) (hH : Vw V H) (h1 : Rch 1 V → ∀ H', Vw V H' → Q (vi 1) H') (h0 : ¬ Rch 1 V → ∀ H', Vw V H' → Q (vi 0) H') : CC (d + 5) MO_isOneOff [va 71] H Q := by
  have hn := hM.boat.s
  have hnn : nS V * nS V ≤ 12 * 12 := Nat.mul_le_mul hn.2 hn.2
  have f : ∀ {H}, Vw V H → H 71 29 = 91 ∧ H 91 = V 91 := fun {H} h => ⟨(h 71 29 rfl).trans (hM.ptr (71, 29, 91) (by decide +kernel)), funext fun j => h 91 j rfl⟩
  have wn := actMany_w hM
  simp only [en_MO_isOneOff, e_MO_isOneOff_0, k_MO_isOneOff_0, rr, sh, Nat.reduceLT, Nat.reduceMul, Int.reduceToNat, Int.reduceGT, Int.reduceGE, Int.reduceNe, true_and, and_true, true_or, or_true, false_or, or_false, and_self, or_self, if_true, if_false, reduceIte, not_true_eq_false, not_false_eq_true, Int.reduceEq, Int.reduceNe, Int.reduceLT, Int.reduceLE, Int.reduceAdd, Int.reduceSub, Int.reduceMul, Int.reduceNeg, Nat.reduceAdd, Nat.reduceLeDiff, Nat.reduceEqDiff, ne_eq, List.length_cons, List.length_nil, Nat.reduceSub]
  refine up_nat (P := fun i => ∀ H' (y z : AV), Vw V H' → (∀ j, j < i → ¬ (actP V j ∧ Rch 0 (actD V j))) → R (d + 5) MO_isOneOff (blk MO_isOneOff 1) [va 71, vi i, y, z] [] H' Q) ?_ ?_ 0 (Nat.zero_le (nS V + nS V * nS V)) H vu vu hH (fun j hj => absurd hj (Nat.not_lt_zero j))
  · intro H' y z b1 b2
    rw [e_MO_isOneOff_1]
    simp only [k_MO_isOneOff_1, e_MO_isOneOff_4, k_MO_isOneOff_4, en_MO_actMany, e_MO_actMany_0, k_MO_actMany_0, en_MO_seats, e_MO_seats_0, k_MO_seats_0, rr, sh, Nat.reduceLT, Nat.reduceMul, Int.reduceToNat, Int.reduceGT, Int.reduceGE, Int.reduceNe, true_and, and_true, true_or, or_true, false_or, or_false, and_self, or_self, if_true, if_false, reduceIte, not_true_eq_false, not_false_eq_true, Int.reduceEq, Int.reduceNe, Int.reduceLT, Int.reduceLE, Int.reduceAdd, Int.reduceSub, Int.reduceMul, Int.reduceNeg, Nat.reduceAdd, Nat.reduceLeDiff, Nat.reduceEqDiff, ne_eq, List.length_cons, List.length_nil, Nat.reduceSub, (f b1).1, (f b1).2, hn.1, wn, Int.le_refl]
    exact h0 (fun ⟨i, i1, i2, i3⟩ => b2 i i1 ⟨i2, i3⟩) H' b1
  · intro i hi ih H' y z b1 b2
    have c1 : ¬ ((nS V + nS V * nS V : Nat) : Int) ≤ i := by
      have := Int.ofNat_lt.mpr hi
      clear ih b2 wn h1 h0; omega
    have kw := w32_s (n := i) (by clear ih b2 wn h1 h0 c1; omega)
    have nx : ∀ H' (y z : AV), Vw V H' → ¬ (actP V i ∧ Rch 0 (actD V i)) → R (d + 5) MO_isOneOff (blk MO_isOneOff 1) [va 71, vi ((i + 1 : Nat) : Int), y, z] [] H' Q := fun H' y z b1 q => ih H' y z b1 fun j hj => by
      by_cases e : j = i
      · subst e; exact q
      · exact b2 j (Nat.lt_of_le_of_ne (Nat.le_of_lt_succ hj) e)
    rw [e_MO_isOneOff_1]
    simp only [k_MO_isOneOff_1, en_MO_actMany, e_MO_actMany_0, k_MO_actMany_0, en_MO_seats, e_MO_seats_0, k_MO_seats_0, rr, sh, Nat.reduceLT, Nat.reduceMul, Int.reduceToNat, Int.reduceGT, Int.reduceGE, Int.reduceNe, true_and, and_true, true_or, or_true, false_or, or_false, and_self, or_self, if_true, if_false, reduceIte, not_true_eq_false, not_false_eq_true, Int.reduceEq, Int.reduceNe, Int.reduceLT, Int.reduceLE, Int.reduceAdd, Int.reduceSub, Int.reduceMul, Int.reduceNeg, Nat.reduceAdd, Nat.reduceLeDiff, Nat.reduceEqDiff, ne_eq, List.length_cons, List.length_nil, Nat.reduceSub, (f b1).1, (f b1).2, hn.1, wn, c1]
    refine c_acts (d := d + 1) hM b1 hi (fun q => ?_) (fun q H2 e1 => ?_)
    · simp only [e_MO_isOneOff_2, k_MO_isOneOff_2, e_MO_isOneOff_3, k_MO_isOneOff_3, rr, sh, Nat.reduceLT, Nat.reduceMul, Int.reduceToNat, Int.reduceGT, Int.reduceGE, Int.reduceNe, true_and, and_true, true_or, or_true, false_or, or_false, and_self, or_self, if_true, if_false, reduceIte, not_true_eq_false, not_false_eq_true, Int.reduceEq, Int.reduceNe, Int.reduceLT, Int.reduceLE, Int.reduceAdd, Int.reduceSub, Int.reduceMul, Int.reduceNeg, Nat.reduceAdd, Nat.reduceLeDiff, Nat.reduceEqDiff, ne_eq, List.length_cons, List.length_nil, Nat.reduceSub, kw]
      exact nx _ _ _ b1 (fun z => q z.1)
    · have hM2 := actD_inm hM q
      simp only [e_MO_isOneOff_2, k_MO_isOneOff_2, rr, sh, Nat.reduceLT, Nat.reduceMul, Int.reduceToNat, Int.reduceGT, Int.reduceGE, Int.reduceNe, true_and, and_true, true_or, or_true, false_or, or_false, and_self, or_self, if_true, if_false, reduceIte, not_true_eq_false, not_false_eq_true, Int.reduceEq, Int.reduceNe, Int.reduceLT, Int.reduceLE, Int.reduceAdd, Int.reduceSub, Int.reduceMul, Int.reduceNeg, Nat.reduceAdd, Nat.reduceLeDiff, Nat.reduceEqDiff, ne_eq, List.length_cons, List.length_nil, Nat.reduceSub]
      refine c_isRight (d := d) hM2 e1 (fun r => ?_) (fun r => ?_)
      · simp only [rr, sh, Nat.reduceLT, Nat.reduceMul, Int.reduceToNat, Int.reduceGT, Int.reduceGE, Int.reduceNe, true_and, and_true, true_or, or_true, false_or, or_false, and_self, or_self, if_true, if_false, reduceIte, not_true_eq_false, not_false_eq_true, Int.reduceEq, Int.reduceNe, Int.reduceLT, Int.reduceLE, Int.reduceAdd, Int.reduceSub, Int.reduceMul, Int.reduceNeg, Nat.reduceAdd, Nat.reduceLeDiff, Nat.reduceEqDiff, ne_eq, List.length_cons, List.length_nil, Nat.reduceSub]
        refine c_acts (d := d + 1) hM2 e1 (by rw [actD_S]; exact hi) (fun z => absurd (actP_two q) z) (fun _ H4 e4 => ?_)
        rw [actD_two hM q] at e4
        simp only [rr, sh, Nat.reduceLT, Nat.reduceMul, Int.reduceToNat, Int.reduceGT, Int.reduceGE, Int.reduceNe, true_and, and_true, true_or, or_true, false_or, or_false, and_self, or_self, if_true, if_false, reduceIte, not_true_eq_false, not_false_eq_true, Int.reduceEq, Int.reduceNe, Int.reduceLT, Int.reduceLE, Int.reduceAdd, Int.reduceSub, Int.reduceMul, Int.reduceNeg, Nat.reduceAdd, Nat.reduceLeDiff, Nat.reduceEqDiff, ne_eq, List.length_cons, List.length_nil, Nat.reduceSub]
        exact h1 ⟨i, hi, q, r⟩ H4 e4
      · simp only [rr, sh, Nat.reduceLT, Nat.reduceMul, Int.reduceToNat, Int.reduceGT, Int.reduceGE, Int.reduceNe, true_and, and_true, true_or, or_true, false_or, or_false, and_self, or_self, if_true, if_false, reduceIte, not_true_eq_false, not_false_eq_true, Int.reduceEq, Int.reduceNe, Int.reduceLT, Int.reduceLE, Int.reduceAdd, Int.reduceSub, Int.reduceMul, Int.reduceNeg, Nat.reduceAdd, Nat.reduceLeDiff, Nat.reduceEqDiff, ne_eq, List.length_cons, List.length_nil, Nat.reduceSub]
        refine c_acts (d := d + 1) hM2 e1 (by rw [actD_S]; exact hi) (fun z => absurd (actP_two q) z) (fun _ H4 e4 => ?_)
        rw [actD_two hM q] at e4
        simp only [e_MO_isOneOff_3, k_MO_isOneOff_3, rr, sh, Nat.reduceLT, Nat.reduceMul, Int.reduceToNat, Int.reduceGT, Int.reduceGE, Int.reduceNe, true_and, and_true, true_or, or_true, false_or, or_false, and_self, or_self, if_true, if_false, reduceIte, not_true_eq_false, not_false_eq_true, Int.reduceEq, Int.reduceNe, Int.reduceLT, Int.reduceLE, Int.reduceAdd, Int.reduceSub, Int.reduceMul, Int.reduceNeg, Nat.reduceAdd, Nat.reduceLeDiff, Nat.reduceEqDiff, ne_eq, List.length_cons, List.length_nil, Nat.reduceSub, kw]
        exact nx _ _ _ e4 (fun z => r z.2)
set_option maxRecDepth 20000 in
theorem c_isTwoOff (hM : Inm V) (hH : Vw V H) (h1 : Rch 2 V → ∀ H', Vw V H' → Q (vi 1) H') (h0 : ¬ Rch 2 V → ∀ H', Vw V H' → Q (vi 0) H') : CC (d + 6) MO_isTwoOff [va 71] H Q := by
  have hn := hM.boat.s
  have hnn : nS V * nS V ≤ 12 * 12 := Nat.mul_le_mul hn.2 hn.2
  have f : ∀ {H}, Vw V H → H 71 29 = 91 ∧ H 91 = V 91 := fun {H} h => ⟨(h 71 29 rfl).trans (hM.ptr (71, 29, 91) (by decide +kernel)), funext fun j => h 91 j rfl⟩
  have wn := actMany_w hM
  simp only [en_MO_isTwoOff, e_MO_isTwoOff_0, k_MO_isTwoOff_0, rr, sh, Nat.reduceLT, Nat.reduceMul, Int.reduceToNat, Int.reduceGT, Int.reduceGE, Int.reduceNe, true_and, and_true, true_or, or_true, false_or, or_false, and_self, or_self, if_true, if_false, reduceIte, not_true_eq_false, not_false_eq_true, Int.reduceEq, Int.reduceNe, Int.reduceLT, Int.reduceLE, Int.reduceAdd, Int.reduceSub, Int.reduceMul, Int.reduceNeg, Nat.reduceAdd, Nat.reduceLeDiff, Nat.reduceEqDiff, ne_eq, List.length_cons, List.length_nil, Nat.reduceSub]
  refine up_nat (P := fun i => ∀ H' (y z : AV), Vw V H' → (∀ j, j < i → ¬ (actP V j ∧ Rch 1 (actD V j))) → R (d + 6) MO_isTwoOff (blk MO_isTwoOff 1) [va 71, vi i, y, z] [] H' Q) ?_ ?_ 0 (Nat.zero_le (nS V + nS V * nS V)) H vu vu hH (fun j hj => absurd hj (Nat.not_lt_zero j))
  · intro H' y z b1 b2
    rw [e_MO_isTwoOff_1]
    simp only [k_MO_isTwoOff_1, e_MO_isTwoOff_4, k_MO_isTwoOff_4, en_MO_actMany, e_MO_actMany_0, k_MO_actMany_0, en_MO_seats, e_MO_seats_0, k_MO_seats_0, rr, sh, Nat.reduceLT, Nat.reduceMul, Int.reduceToNat, Int.reduceGT, Int.reduceGE, Int.reduceNe, true_and, and_true, true_or, or_true, false_or, or_false, and_self, or_self, if_true, if_false, reduceIte, not_true_eq_false, not_false_eq_true, Int.reduceEq, Int.reduceNe, Int.reduceLT, Int.reduceLE, Int.reduceAdd, Int.reduceSub, Int.reduceMul, Int.reduceNeg, Nat.reduceAdd, Nat.reduceLeDiff, Nat.reduceEqDiff, ne_eq, List.length_cons, List.length_nil, Nat.reduceSub, (f b1).1, (f b1).2, hn.1, wn, Int.le_refl]
    exact h0 (fun ⟨i, i1, i2, i3⟩ => b2 i i1 ⟨i2, i3⟩) H' b1
  · intro i hi ih H' y z b1 b2
    have c1 : ¬ ((nS V + nS V * nS V : Nat) : Int) ≤ i := by
      have := Int.ofNat_lt.mpr hi
      clear ih b2 wn h1 h0; omega
    have kw := w32_s (n := i) (by clear ih b2 wn h1 h0 c1; omega)
    have nx : ∀ H' (y z : AV), Vw V H' → ¬ (actP V i ∧ Rch 1 (actD V i)) → R (d + 6) MO_isTwoOff (blk MO_isTwoOff 1) [va 71, vi ((i + 1 : Nat) : Int), y, z] [] H' Q := fun H' y z b1 q => ih H' y z b1 fun j hj => by
      by_cases e : j = i
      · subst e; exact q
      · exact b2 j (Nat.lt_of_le_of_ne (Nat.le_of_lt_succ hj) e)
    rw [e_MO_isTwoOff_1]
    simp only [k_MO_isTwoOff_1, en_MO_actMany, e_MO_actMany_0, k_MO_actMany_0, en_MO_seats, e_MO_seats_0, k_MO_seats_0, rr, sh, Nat.reduceLT, Nat.reduceMul, Int.reduceToNat, Int.reduceGT, Int.reduceGE, Int.reduceNe, true_and, and_true, true_or, or_true, false_or, or_false, and_self, or_self, if_true, if_false, reduceIte, not_true_eq_false, not_false_eq_true, Int.reduceEq, Int.reduceNe, Int.reduceLT, Int.reduceLE, Int.reduceAdd, Int.reduceSub, Int.reduceMul, Int.reduceNeg, Nat.reduceAdd, Nat.reduceLeDiff, Nat.reduceEqDiff, ne_eq, List.length_cons, List.length_nil, Nat.reduceSub, (f b1).1, (f b1).2, hn.1, wn, c1]
    refine c_acts (d := d + 2) hM b1 hi (fun q => ?_) (fun q H2 e1 => ?_)
    · simp only [e_MO_isTwoOff_2, k_MO_isTwoOff_2, e_MO_isTwoOff_3, k_MO_isTwoOff_3, rr, sh, Nat.reduceLT, Nat.reduceMul, Int.reduceToNat, Int.reduceGT, Int.reduceGE, Int.reduceNe, true_and, and_true, true_or, or_true, false_or, or_false, and_self, or_self, if_true, if_false, reduceIte, not_true_eq_false, not_false_eq_true, Int.reduceEq, Int.reduceNe, Int.reduceLT, Int.reduceLE, Int.reduceAdd, Int.reduceSub, Int.reduceMul, Int.reduceNeg, Nat.reduceAdd, Nat.reduceLeDiff, Nat.reduceEqDiff, ne_eq, List.length_cons, List.length_nil, Nat.reduceSub, kw]
      exact nx _ _ _ b1 (fun z => q z.1)
    · have hM2 := actD_inm hM q
      simp only [e_MO_isTwoOff_2, k_MO_isTwoOff_2, rr, sh, Nat.reduceLT, Nat.reduceMul, Int.reduceToNat, Int.reduceGT, Int.reduceGE, Int.reduceNe, true_and, and_true, true_or, or_true, false_or, or_false, and_self, or_self, if_true, if_false, reduceIte, not_true_eq_false, not_false_eq_true, Int.reduceEq, Int.reduceNe, Int.reduceLT, Int.reduceLE, Int.reduceAdd, Int.reduceSub, Int.reduceMul, Int.reduceNeg, Nat.reduceAdd, Nat.reduceLeDiff, Nat.reduceEqDiff, ne_eq, List.length_cons, List.length_nil, Nat.reduceSub]
      refine c_isOneOff (d := d) hM2 e1 (fun r H3 e3 => ?_) (fun r H3 e3 => ?_)
      · simp only [rr, sh, Nat.reduceLT, Nat.reduceMul, Int.reduceToNat, Int.reduceGT, Int.reduceGE, Int.reduceNe, true_and, and_true, true_or, or_true, false_or, or_false, and_self, or_self, if_true, if_false, reduceIte, not_true_eq_false, not_false_eq_true, Int.reduceEq, Int.reduceNe, Int.reduceLT, Int.reduceLE, Int.reduceAdd, Int.reduceSub, Int.reduceMul, Int.reduceNeg, Nat.reduceAdd, Nat.reduceLeDiff, Nat.reduceEqDiff, ne_eq, List.length_cons, List.length_nil, Nat.reduceSub]
        refine c_acts (d := d + 2) hM2 e3 (by rw [actD_S]; exact hi) (fun z => absurd (actP_two q) z) (fun _ H4 e4 => ?_)
        rw [actD_two hM q] at e4
        simp only [rr, sh, Nat.reduceLT, Nat.reduceMul, Int.reduceToNat, Int.reduceGT, Int.reduceGE, Int.reduceNe, true_and, and_true, true_or, or_true, false_or, or_false, and_self, or_self, if_true, if_false, reduceIte, not_true_eq_false, not_false_eq_true, Int.reduceEq, Int.reduceNe, Int.reduceLT, Int.reduceLE, Int.reduceAdd, Int.reduceSub, Int.reduceMul, Int.reduceNeg, Nat.reduceAdd, Nat.reduceLeDiff, Nat.reduceEqDiff, ne_eq, List.length_cons, List.length_nil, Nat.reduceSub]
        exact h1 ⟨i, hi, q, r⟩ H4 e4
      · simp only [rr, sh, Nat.reduceLT, Nat.reduceMul, Int.reduceToNat, Int.reduceGT, Int.reduceGE, Int.reduceNe, true_and, and_true, true_or, or_true, false_or, or_false, and_self, or_self, if_true, if_false, reduceIte, not_true_eq_false, not_false_eq_true, Int.reduceEq, Int.reduceNe, Int.reduceLT, Int.reduceLE, Int.reduceAdd, Int.reduceSub, Int.reduceMul, Int.reduceNeg, Nat.reduceAdd, Nat.reduceLeDiff, Nat.reduceEqDiff, ne_eq, List.length_cons, List.length_nil, Nat.reduceSub]
        refine c_acts (d := d + 2) hM2 e3 (by rw [actD_S]; exact hi) (fun z => absurd (actP_two q) z) (fun _ H4 e4 => ?_)
        rw [actD_two hM q] at e4
        simp only [e_MO_isTwoOff_3, k_MO_isTwoOff_3, rr, sh, Nat.reduceLT, Nat.reduceMul, Int.reduceToNat, Int.reduceGT, Int.reduceGE, Int.reduceNe, true_and, and_true, true_or, or_true, false_or, or_false, and_self, or_self, if_true, if_false, reduceIte, not_true_eq_false, not_false_eq_true, Int.reduceEq, Int.reduceNe, Int.reduceLT, Int.reduceLE, Int.reduceAdd, Int.reduceSub, Int.reduceMul, Int.reduceNeg, Nat.reduceAdd, Nat.reduceLeDiff, Nat.reduceEqDiff, ne_eq, List.length_cons, List.length_nil, Nat.reduceSub, kw]
        exact nx _ _ _ e4 (fun z => r z.2)
set_option maxRecDepth 20000 in
theorem c_isThreeOff (hM : Inm V) (hH : Vw V H) (h1 : Rch 3 V → ∀ H', Vw V H' → Q (vi 1) H') (h0 : ¬ Rch 3 V → ∀ H', Vw V H' → Q (vi 0) H') : CC (d + 7) MO_isThreeOff [va 71] H Q := by
  have hn := hM.boat.s
  have hnn : nS V * nS V ≤ 12 * 12 := Nat.mul_le_mul hn.2 hn.2
  have f : ∀ {H}, Vw V H → H 71 29 = 91 ∧ H 91 = V 91 := fun {H} h => ⟨(h 71 29 rfl).trans (hM.ptr (71, 29, 91) (by decide +kernel)), funext fun j => h 91 j rfl⟩
  have wn := actMany_w hM
  simp only [en_MO_isThreeOff, e_MO_isThreeOff_0, k_MO_isThreeOff_0, rr, sh, Nat.reduceLT, Nat.reduceMul, Int.reduceToNat, Int.reduceGT, Int.reduceGE, Int.reduceNe, true_and, and_true, true_or, or_true, false_or, or_false, and_self, or_self, if_true, if_false, reduceIte, not_true_eq_false, not_false_eq_true, Int.reduceEq, Int.reduceNe, Int.reduceLT, Int.reduceLE, Int.reduceAdd, Int.reduceSub, Int.reduceMul, Int.reduceNeg, Nat.reduceAdd, Nat.reduceLeDiff, Nat.reduceEqDiff, ne_eq, List.length_cons, List.length_nil, Nat.reduceSub]
  refine up_nat (P := fun i => ∀ H' (y z : AV), Vw V H' → (∀ j, j < i → ¬ (actP V j ∧ Rch 2 (actD V j))) → R (d + 7) MO_isThreeOff (blk MO_isThreeOff 1) [va 71, vi i, y, z] [] H' Q) ?_ ?_ 0 (Nat.zero_le (nS V + nS V * nS V)) H vu vu hH (fun j hj => absurd hj (Nat.not_lt_zero j))
  · intro H' y z b1 b2
    rw [e_MO_isThreeOff_1]
    simp only [k_MO_isThreeOff_1, e_MO_isThreeOff_4, k_MO_isThreeOff_4, en_MO_actMany, e_MO_actMany_0, k_MO_actMany_0, en_MO_seats, e_MO_seats_0, k_MO_seats_0, rr, sh, Nat.reduceLT, Nat.reduceMul, Int.reduceToNat, Int.reduceGT, Int.reduceGE, Int.reduceNe, true_and, and_true, true_or, or_true, false_or, or_false, and_self, or_self, if_true, if_false, reduceIte, not_true_eq_false, not_false_eq_true, Int.reduceEq, Int.reduceNe, Int.reduceLT, Int.reduceLE, Int.reduceAdd, Int.reduceSub, Int.reduceMul, Int.reduceNeg, Nat.reduceAdd, Nat.reduceLeDiff, Nat.reduceEqDiff, ne_eq, List.length_cons, List.length_nil, Nat.reduceSub, (f b1).1, (f b1).2, hn.1, wn, Int.le_refl]
    exact h0 (fun ⟨i, i1, i2, i3⟩ => b2 i i1 ⟨i2, i3⟩) H' b1
  · intro i hi ih H' y z b1 b2
    have c1 : ¬ ((nS V + nS V * nS V : Nat) : Int) ≤ i := by
      have := Int.ofNat_lt.mpr hi
      clear ih b2 wn h1 h0; omega
    have kw := w32_s (n := i) (by clear ih b2 wn h1 h0 c1; omega)
    have nx : ∀ H' (y z : AV), Vw V H' → ¬ (actP V i ∧ Rch 2 (actD V i)) → R (d + 7) MO_isThreeOff (blk MO_isThreeOff 1) [va 71, vi ((i + 1 : Nat) : Int), y, z] [] H' Q := fun H' y z b1 q => ih H' y z b1 fun j hj => by
      by_cases e : j = i
      · subst e; exact q
      · exact b2 j (Nat.lt_of_le_of_ne (Nat.le_of_lt_succ hj) e)
    rw [e_MO_isThreeOff_1]
    simp only [k_MO_isThreeOff_1, en_MO_actMany, e_MO_actMany_0, k_MO_actMany_0, en_MO_seats, e_MO_seats_0, k_MO_seats_0, rr, sh, Nat.reduceLT, Nat.reduceMul, Int.reduceToNat, Int.reduceGT, Int.reduceGE, Int.reduceNe, true_and, and_true, true_or, or_true, false_or, or_false, and_self, or_self, if_true, if_false, reduceIte, not_true_eq_false, not_false_eq_true, Int.reduceEq, Int.reduceNe, Int.reduceLT, Int.reduceLE, Int.reduceAdd, Int.reduceSub, Int.reduceMul, Int.reduceNeg, Nat.reduceAdd, Nat.reduceLeDiff, Nat.reduceEqDiff, ne_eq, List.length_cons, List.length_nil, Nat.reduceSub, (f b1).1, (f b1).2, hn.1, wn, c1]
    refine c_acts (d := d + 3) hM b1 hi (fun q => ?_) (fun q H2 e1 => ?_)
    · simp only [e_MO_isThreeOff_2, k_MO_isThreeOff_2, e_MO_isThreeOff_3, k_MO_isThreeOff_3, rr, sh, Nat.reduceLT, Nat.reduceMul, Int.reduceToNat, Int.reduceGT, Int.reduceGE, Int.reduceNe, true_and, and_true, true_or, or_true, false_or, or_false, and_self, or_self, if_true, if_false, reduceIte, not_true_eq_false, not_false_eq_true, Int.reduceEq, Int.reduceNe, Int.reduceLT, Int.reduceLE, Int.reduceAdd, Int.reduceSub, Int.reduceMul, Int.reduceNeg, Nat.reduceAdd, Nat.reduceLeDiff, Nat.reduceEqDiff, ne_eq, List.length_cons, List.length_nil, Nat.reduceSub, kw]
      exact nx _ _ _ b1 (fun z => q z.1)
    · have hM2 := actD_inm hM q
      simp only [e_MO_isThreeOff_2, k_MO_isThreeOff_2, rr, sh, Nat.reduceLT, Nat.reduceMul, Int.reduceToNat, Int.reduceGT, Int.reduceGE, Int.reduceNe, true_and, and_true, true_or, or_true, false_or, or_false, and_self, or_self, if_true, if_false, reduceIte, not_true_eq_false, not_false_eq_true, Int.reduceEq, Int.reduceNe, Int.reduceLT, Int.reduceLE, Int.reduceAdd, Int.reduceSub, Int.reduceMul, Int.reduceNeg, Nat.reduceAdd, Nat.reduceLeDiff, Nat.reduceEqDiff, ne_eq, List.length_cons, List.length_nil, Nat.reduceSub]
      refine c_isTwoOff (d := d) hM2 e1 (fun r H3 e3 => ?_) (fun r H3 e3 => ?_)
      · simp only [rr, sh, Nat.reduceLT, Nat.reduceMul, Int.reduceToNat, Int.reduceGT, Int.reduceGE, Int.reduceNe, true_and, and_true, true_or, or_true, false_or, or_false, and_self, or_self, if_true, if_false, reduceIte, not_true_eq_false, not_false_eq_true, Int.reduceEq, Int.reduceNe, Int.reduceLT, Int.reduceLE, Int.reduceAdd, Int.reduceSub, Int.reduceMul, Int.reduceNeg, Nat.reduceAdd, Nat.reduceLeDiff, Nat.reduceEqDiff, ne_eq, List.length_cons, List.length_nil, Nat.reduceSub]
        refine c_acts (d := d + 3) hM2 e3 (by rw [actD_S]; exact hi) (fun z => absurd (actP_two q) z) (fun _ H4 e4 => ?_)
        rw [actD_two hM q] at e4
        simp only [rr, sh, Nat.reduceLT, Nat.reduceMul, Int.reduceToNat, Int.reduceGT, Int.reduceGE, Int.reduceNe, true_and, and_true, true_or, or_true, false_or, or_false, and_self, or_self, if_true, if_false, reduceIte, not_true_eq_false, not_false_eq_true, Int.reduceEq, Int.reduceNe, Int.reduceLT, Int.reduceLE, Int.reduceAdd, Int.reduceSub, Int.reduceMul, Int.reduceNeg, Nat.reduceAdd, Nat.reduceLeDiff, Nat.reduceEqDiff, ne_eq, List.length_cons, List.length_nil, Nat.reduceSub]
        exact h1 ⟨i, hi, q, r⟩ H4 e4
      · simp only [rr, sh, Nat.reduceLT, Nat.reduceMul, Int.reduceToNat, Int.reduceGT, Int.reduceGE, Int.reduceNe, true_and, and_true, true_or, or_true, false_or, or_false, and_self, or_self, if_true, if_false, reduceIte, not_true_eq_false, not_false_eq_true, Int.reduceEq, Int.reduceNe, Int.reduceLT, Int.reduceLE, Int.reduceAdd, Int.reduceSub, Int.reduceMul, Int.reduceNeg, Nat.reduceAdd, Nat.reduceLeDiff, Nat.reduceEqDiff, ne_eq, List.length_cons, List.length_nil, Nat.reduceSub]
        refine c_acts (d := d + 3) hM2 e3 (by rw [actD_S]; exact hi) (fun z => absurd (actP_two q) z) (fun _ H4 e4 => ?_)
        rw [actD_two hM q] at e4
        simp only [e_MO_isThreeOff_3, k_MO_isThreeOff_3, rr, sh, Nat.reduceLT, Nat.reduceMul, Int.reduceToNat, Int.reduceGT, Int.reduceGE, Int.reduceNe, true_and, and_true, true_or, or_true, false_or, or_false, and_self, or_self, if_true, if_false, reduceIte, not_true_eq_false, not_false_eq_true, Int.reduceEq, Int.reduceNe, Int.reduceLT, Int.reduceLE, Int.reduceAdd, Int.reduceSub, Int.reduceMul, Int.reduceNeg, Nat.reduceAdd, Nat.reduceLeDiff, Nat.reduceEqDiff, ne_eq, List.length_cons, List.length_nil, Nat.reduceSub, kw]
        exact nx _ _ _ e4 (fun z => r z.2)
set_option maxRecDepth 20000 in
theorem c_changesM (hM : Inm V) (hH : Vw V H) (hQ : ∀ H' r, Vw V H' → IsLst (fun m => Rch m V) r → Q (vi r) H') : CC (d + 8) MO_changes [va 71] H Q := by
  simp only [en_MO_changes, e_MO_changes_0, k_MO_changes_0, rr, sh, Nat.reduceLT, Nat.reduceMul, Int.reduceToNat, Int.reduceGT, Int.reduceGE, Int.reduceNe, true_and, and_true, true_or, or_true, false_or, or_false, and_self, or_self, if_true, if_false, reduceIte, not_true_eq_false, not_false_eq_true, Int.reduceEq, Int.reduceNe, Int.reduceLT, Int.reduceLE, Int.reduceAdd, Int.reduceSub, Int.reduceMul, Int.reduceNeg, Nat.reduceAdd, Nat.reduceLeDiff, Nat.reduceEqDiff, ne_eq, List.length_cons, List.length_nil, Nat.reduceSub]
  refine c_isRight (d := d + 3) hM hH (fun q0 => ?_) (fun q0 => ?_)
  · simp only [e_MO_changes_5, k_MO_changes_5, rr, sh, Nat.reduceLT, Nat.reduceMul, Int.reduceToNat, Int.reduceGT, Int.reduceGE, Int.reduceNe, true_and, and_true, true_or, or_true, false_or, or_false, and_self, or_self, if_true, if_false, reduceIte, not_true_eq_false, not_false_eq_true, Int.reduceEq, Int.reduceNe, Int.reduceLT, Int.reduceLE, Int.reduceAdd, Int.reduceSub, Int.reduceMul, Int.reduceNeg, Nat.reduceAdd, Nat.reduceLeDiff, Nat.reduceEqDiff, ne_eq, List.length_cons, List.length_nil, Nat.reduceSub]
    exact hQ H 0 hH (Or.inr ⟨0, by decide, rfl, q0, fun j hj => absurd hj (Nat.not_lt_zero j)⟩)
  · simp only [e_MO_changes_1, k_MO_changes_1, rr, sh, Nat.reduceLT, Nat.reduceMul, Int.reduceToNat, Int.reduceGT, Int.reduceGE, Int.reduceNe, true_and, and_true, true_or, or_true, false_or, or_false, and_self, or_self, if_true, if_false, reduceIte, not_true_eq_false, not_false_eq_true, Int.reduceEq, Int.reduceNe, Int.reduceLT, Int.reduceLE, Int.reduceAdd, Int.reduceSub, Int.reduceMul, Int.reduceNeg, Nat.reduceAdd, Nat.reduceLeDiff, Nat.reduceEqDiff, ne_eq, List.length_cons, List.length_nil, Nat.reduceSub]
    refine c_isOneOff (d := d + 2) hM hH (fun q1 H1 e1 => ?_) (fun q1 H1 e1 => ?_)
    · simp only [e_MO_changes_5, k_MO_changes_5, rr, sh, Nat.reduceLT, Nat.reduceMul, Int.reduceToNat, Int.reduceGT, Int.reduceGE, Int.reduceNe, true_and, and_true, true_or, or_true, false_or, or_false, and_self, or_self, if_true, if_false, reduceIte, not_true_eq_false, not_false_eq_true, Int.reduceEq, Int.reduceNe, Int.reduceLT, Int.reduceLE, Int.reduceAdd, Int.reduceSub, Int.reduceMul, Int.reduceNeg, Nat.reduceAdd, Nat.reduceLeDiff, Nat.reduceEqDiff, ne_eq, List.length_cons, List.length_nil, Nat.reduceSub]
      refine hQ H1 1 e1 (Or.inr ⟨1, by decide, rfl, q1, fun j hj => ?_⟩)
      obtain rfl : j = 0 := by omega
      exact q0
    · simp only [e_MO_changes_2, k_MO_changes_2, rr, sh, Nat.reduceLT, Nat.reduceMul, Int.reduceToNat, Int.reduceGT, Int.reduceGE, Int.reduceNe, true_and, and_true, true_or, or_true, false_or, or_false, and_self, or_self, if_true, if_false, reduceIte, not_true_eq_false, not_false_eq_true, Int.reduceEq, Int.reduceNe, Int.reduceLT, Int.reduceLE, Int.reduceAdd, Int.reduceSub, Int.reduceMul, Int.reduceNeg, Nat.reduceAdd, Nat.reduceLeDiff, Nat.reduceEqDiff, ne_eq, List.length_cons, List.length_nil, Nat.reduceSub]
      refine c_isTwoOff (d := d + 1) hM e1 (fun q2 H2 e2 => ?_) (fun q2 H2 e2 => ?_)
      · simp only [e_MO_changes_5, k_MO_changes_5, rr, sh, Nat.reduceLT, Nat.reduceMul, Int.reduceToNat, Int.reduceGT, Int.reduceGE, Int.reduceNe, true_and, and_true, true_or, or_true, false_or, or_false, and_self, or_self, if_true, if_false, reduceIte, not_true_eq_false, not_false_eq_true, Int.reduceEq, Int.reduceNe, Int.reduceLT, Int.reduceLE, Int.reduceAdd, Int.reduceSub, Int.reduceMul, Int.reduceNeg, Nat.reduceAdd, Nat.reduceLeDiff, Nat.reduceEqDiff, ne_eq, List.length_cons, List.length_nil, Nat.reduceSub]
        refine hQ H2 2 e2 (Or.inr ⟨2, by decide, rfl, q2, fun j hj => ?_⟩)
        rcases (by omega : j = 0 ∨ j = 1) with rfl | rfl
        · exact q0
        · exact q1
      · simp only [e_MO_changes_3, k_MO_changes_3, rr, sh, Nat.reduceLT, Nat.reduceMul, Int.reduceToNat, Int.reduceGT, Int.reduceGE, Int.reduceNe, true_and, and_true, true_or, or_true, false_or, or_false, and_self, or_self, if_true, if_false, reduceIte, not_true_eq_false, not_false_eq_true, Int.reduceEq, Int.reduceNe, Int.reduceLT, Int.reduceLE, Int.reduceAdd, Int.reduceSub, Int.reduceMul, Int.reduceNeg, Nat.reduceAdd, Nat.reduceLeDiff, Nat.reduceEqDiff, ne_eq, List.length_cons, List.length_nil, Nat.reduceSub]
        refine c_isThreeOff (d := d) hM e2 (fun q3 H3 e3 => ?_) (fun q3 H3 e3 => ?_)
        · simp only [e_MO_changes_5, k_MO_changes_5, rr, sh, Nat.reduceLT, Nat.reduceMul, Int.reduceToNat, Int.reduceGT, Int.reduceGE, Int.reduceNe, true_and, and_true, true_or, or_true, false_or, or_false, and_self, or_self, if_true, if_false, reduceIte, not_true_eq_false, not_false_eq_true, Int.reduceEq, Int.reduceNe, Int.reduceLT, Int.reduceLE, Int.reduceAdd, Int.reduceSub, Int.reduceMul, Int.reduceNeg, Nat.reduceAdd, Nat.reduceLeDiff, Nat.reduceEqDiff, ne_eq, List.length_cons, List.length_nil, Nat.reduceSub]
          refine hQ H3 3 e3 (Or.inr ⟨3, by decide, rfl, q3, fun j hj => ?_⟩)
          rcases (by omega : j = 0 ∨ j = 1 ∨ j = 2) with rfl | rfl | rfl
          · exact q0
          · exact q1
          · exact q2
        · simp only [e_MO_changes_4, k_MO_changes_4, e_MO_changes_5, k_MO_changes_5, rr, sh, Nat.reduceLT, Nat.reduceMul, Int.reduceToNat, Int.reduceGT, Int.reduceGE, Int.reduceNe, true_and, and_true, true_or, or_true, false_or, or_false, and_self, or_self, if_true, if_false, reduceIte, not_true_eq_false, not_false_eq_true, Int.reduceEq, Int.reduceNe, Int.reduceLT, Int.reduceLE, Int.reduceAdd, Int.reduceSub, Int.reduceMul, Int.reduceNeg, Nat.reduceAdd, Nat.reduceLeDiff, Nat.reduceEqDiff, ne_eq, List.length_cons, List.length_nil, Nat.reduceSub]
          refine hQ H3 (-1) e3 (Or.inl ⟨rfl, fun j hj => ?_⟩)
          rcases (by omega : j = 0 ∨ j = 1 ∨ j = 2 ∨ j = 3) with rfl | rfl | rfl | rfl
          · exact q0
          · exact q1
          · exact q2
          · exact q3
end RC
