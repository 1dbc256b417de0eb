/-! feed -/
theorem b_shr_rng (x y : Int) : -2147483648 ≤ b_shr x y ∧ b_shr x y < 2147483648 := by
  unfold b_shr
  have h1 := Int32.le_toInt (Int32.ofInt x >>> (Int32.ofInt y &&& 31))
  have h2 := Int32.toInt_lt (Int32.ofInt x >>> (Int32.ofInt y &&& 31))
  omega
theorem b_and255 {x : Int} : b_and x 255 = x % 256 := by
  show (Int32.ofInt x &&& Int32.ofInt 255).toBitVec.toInt = _
  rw [Int32.toBitVec_and]
  have e1 : (Int32.ofInt 255).toBitVec.toNat = 255 := by decide
  have e2 : (Int32.ofInt x).toBitVec.toNat = (x % 4294967296).toNat := by
    show (BitVec.ofInt 32 x).toNat = _
    rw [BitVec.toNat_ofInt]; rfl
  have e3 : ((Int32.ofInt x).toBitVec &&& (Int32.ofInt 255).toBitVec).toNat = (x % 256).toNat := by
    rw [BitVec.toNat_and, e1, e2, show (255 : Nat) = 2 ^ 8 - 1 from rfl, Nat.and_two_pow_sub_one_eq_mod]
    omega
  rw [bv_int e3 (by omega)]
  omega
theorem w8_mod (x : Int) : w8 x % 256 = x % 256 ∧ -128 ≤ w8 x ∧ w8 x ≤ 127 := by unfold w8; omega
theorem w8_w8 (x : Int) : w8 (w8 x) = w8 x := by unfold w8; omega
def sTP (a b : Int) : Bool := if a = 3 then true else if a = 2 then decide (b = 1) else false
/-- byte j of five numbers -/
def fdB (x : Nat → Int) (j : Nat) : Int := b_shr (x (j / 4)) (24 - 8 * ((j % 4 : Nat) : Int))
section FD
variable {d : Nat} {V H : Hp} {Q : AV → Hp → Prop}
/-- bytes that came behind those that were there -/
def putR (H H' : Hp) (L n : Nat) (f : Nat → Int) : Prop := Fx sTP H H' ∧ H' 2 1 = ((L + n : Nat) : Int) ∧ (∀ k : Nat, k < L → H' 3 k = H 3 k) ∧ ∀ j : Nat, j < n → H' 3 ((L + j : Nat) : Int) = w8 (f j)
theorem put_ix {L j : Nat} (h : L + j < 1600) : (¬ (1600 : Int) ≤ ((L + j : Nat) : Int)) ∧ (0 ≤ ((L + j : Nat) : Int) ∧ ((L + j : Nat) : Int) < 1600) ∧ w32 (((L + j : Nat) : Int) + 1) = ((L + (j + 1) : Nat) : Int) := ⟨by omega, by omega, by rw [w32_id (by omega) (by omega)]; omega⟩
theorem sh_ix {i : Nat} (h : i < 4) : (¬ (24 - 8 * (i : Int)) < 0) ∧ w32 (24 - 8 * (i : Int) + -8) = 24 - 8 * ((i + 1 : Nat) : Int) := ⟨by omega, by rw [w32_id (by omega) (by omega)]; omega⟩
set_option maxRecDepth 20000 in
theorem c_put (h20 : H 2 0 = 3) {L : Nat} (hL : H 2 1 = L) (h4 : L + 4 ≤ 1600) {x : Int} (hQ : ∀ H', putR H H' L 4 (fun i => b_shr x (24 - 8 * (i : Int))) → Q vu H') : CC d TP_put [va 2, vi x] H Q := by
  simp only [en_TP_put, e_TP_put_0, k_TP_put_0, rr, sh, Nat.reduceLT, Nat.reduceMul, Int.reduceToNat, Int.reduceGT, Int.reduceGE, Int.reduceNe, true_and, and_true, true_or, or_true, false_or, or_false, and_self, or_self, if_true, if_false, reduceIte, not_true_eq_false, not_false_eq_true, Int.reduceEq, Int.reduceNe, Int.reduceLT, Int.reduceLE, Int.reduceAdd, Int.reduceSub, Int.reduceMul, Int.reduceNeg, Nat.reduceAdd, Nat.reduceLeDiff, Nat.reduceEqDiff, ne_eq, List.length_cons, List.length_nil, Nat.reduceSub, ite10_0, ite10_1, ite10_01, Classical.not_not]
  refine up_nat (P := fun i => ∀ H', putR H H' L i (fun i => b_shr x (24 - 8 * (i : Int))) → R d TP_put (blk TP_put 1) [va 2, vi x, vi (24 - 8 * (i : Int))] [] H' Q) ?_ ?_ 0 (Nat.zero_le 4) H ⟨Fx.rf, by rw [hL]; rfl, fun _ _ => rfl, fun j hj => absurd hj (Nat.not_lt_zero j)⟩
  · intro H' hR
    have c1 : 24 - 8 * ((4 : Nat) : Int) < 0 := by decide
    rw [e_TP_put_1]
    simp only [k_TP_put_1, e_TP_put_2, k_TP_put_2, rr, sh, Nat.reduceLT, Nat.reduceMul, Int.reduceToNat, Int.reduceGT, Int.reduceGE, Int.reduceNe, true_and, and_true, true_or, or_true, false_or, or_false, and_self, or_self, if_true, if_false, reduceIte, not_true_eq_false, not_false_eq_true, Int.reduceEq, Int.reduceNe, Int.reduceLT, Int.reduceLE, Int.reduceAdd, Int.reduceSub, Int.reduceMul, Int.reduceNeg, Nat.reduceAdd, Nat.reduceLeDiff, Nat.reduceEqDiff, ne_eq, List.length_cons, List.length_nil, Nat.reduceSub, ite10_0, ite10_1, ite10_01, Classical.not_not, c1]
    exact hQ H' hR
  · intro i hi ih H' hR
    obtain ⟨r1, r2, r3, r4⟩ := hR
    obtain ⟨c1, c2⟩ := sh_ix hi
    obtain ⟨c3, c4, c5⟩ := put_ix (show L + i < 1600 by omega)
    have a0 : H' 2 0 = 3 := (r1 2 0 rfl).trans h20
    have a1 : ∀ v, hs H' 3 ((L + i : Nat) : Int) v 2 1 = ((L + i : Nat) : Int) := fun v => by rw [hs_ne (by decide)]; exact r2
    rw [e_TP_put_1]
    simp only [k_TP_put_1, rr, sh, Nat.reduceLT, Nat.reduceMul, Int.reduceToNat, Int.reduceGT, Int.reduceGE, Int.reduceNe, true_and, and_true, true_or, or_true, false_or, or_false, and_self, or_self, if_true, if_false, reduceIte, not_true_eq_false, not_false_eq_true, Int.reduceEq, Int.reduceNe, Int.reduceLT, Int.reduceLE, Int.reduceAdd, Int.reduceSub, Int.reduceMul, Int.reduceNeg, Nat.reduceAdd, Nat.reduceLeDiff, Nat.reduceEqDiff, ne_eq, List.length_cons, List.length_nil, Nat.reduceSub, ite10_0, ite10_1, ite10_01, Classical.not_not, c1, c2, r2, c3, a0, c4, a1, c5]
    refine ih _ ⟨(r1.hs (c := 3) (j := ((L + i : Nat) : Int)) rfl).hs (c := 2) (j := 1) rfl, hs_same, fun k hk => ?_, fun j hj => ?_⟩
    · have n1 : ¬ ((3 : Int) = 3 ∧ (k : Int) = ((L + i : Nat) : Int)) := by omega
      rw [hs_ne (by decide), hs_app, if_neg n1]; exact r3 k hk
    · rw [hs_ne (by decide), hs_app]
      by_cases e : j = i
      · subst e; rw [if_pos ⟨rfl, rfl⟩]; exact w8_w8 _
      · have n1 : ¬ ((3 : Int) = 3 ∧ ((L + j : Nat) : Int) = ((L + i : Nat) : Int)) := by omega
        rw [if_neg n1]; exact r4 j (Nat.lt_of_le_of_ne (Nat.le_of_lt_succ hj) e)
theorem putR.next {H1 H2 : Hp} {L n : Nat} {x : Nat → Int} {q : Nat} (hn : n = 4 * q) (h : putR H H1 L n (fdB x)) (h' : putR H1 H2 (L + n) 4 (fun i => b_shr (x q) (24 - 8 * (i : Int)))) : putR H H2 L (n + 4) (fdB x) := by
  obtain ⟨r1, r2, r3, r4⟩ := h
  obtain ⟨s1, s2, s3, s4⟩ := h'
  refine ⟨r1.tr s1, by rw [s2, Nat.add_assoc], fun k hk => by rw [s3 k (by omega)]; exact r3 k hk, fun j hj => ?_⟩
  by_cases g : j < n
  · rw [s3 (L + j) (by omega)]; exact r4 j g
  · have e := s4 (j - n) (by omega)
    have n1 : L + n + (j - n) = L + j := by omega
    have n2 : j / 4 = q := by omega
    have n3 : j % 4 = j - n := by omega
    rw [n1] at e
    rw [e]
    unfold fdB
    rw [n2, n3]
def five (a b c e g : Int) : Nat → Int := fun k => if k = 0 then a else if k = 1 then b else if k = 2 then c else if k = 3 then e else g
set_option maxRecDepth 20000 in
theorem c_feedC (hP : Ptr V) (hH : Vw V H) {L : Nat} (hL : V 2 1 = L) (h2 : L ≤ 1600) {a b c e g : Int} (hno : ¬ L + 20 ≤ 1600 → Q (vi (-1)) (hs H 70 0 (w32 (V 70 0 + 1)))) (hQ : L + 20 ≤ 1600 → ∀ H', putR H H' L 20 (fdB (five a b c e g)) → Q (vi ((L + 20 : Nat) : Int)) H') : CC (d + 2) EO_feed [va 1, vi a, vi b, vi c, vi e, vi g] H Q := by
  have w1 : w32 ((L : Int) + 20) = ((L + 20 : Nat) : Int) := by rw [w32_id (by omega) (by omega)]; omega
  have a0 : H 2 0 = 3 := (hH 2 0 rfl).trans (hP (2, 0, 3) (by decide +kernel))
  have b0 : H 1 0 = 2 := (hH 1 0 rfl).trans (hP (1, 0, 2) (by decide +kernel))
  have aL : H 2 1 = L := (hH 2 1 rfl).trans hL
  by_cases h : L + 20 ≤ 1600
  · have c1 : ¬ (1600 : Int) < ((L + 20 : Nat) : Int) := by omega
    have hq := hQ h
    simp only [en_EO_feed, e_EO_feed_0, k_EO_feed_0, e_EO_feed_1, k_EO_feed_1, en_TP_hasRoomForFive, e_TP_hasRoomForFive_0, k_TP_hasRoomForFive_0, e_TP_hasRoomForFive_1, k_TP_hasRoomForFive_1, e_TP_hasRoomForFive_2, k_TP_hasRoomForFive_2, rr, sh, Nat.reduceLT, Nat.reduceMul, Int.reduceToNat, Int.reduceGT, Int.reduceGE, Int.reduceNe, true_and, and_true, true_or, or_true, false_or, or_false, and_self, or_self, if_true, if_false, reduceIte, not_true_eq_false, not_false_eq_true, Int.reduceEq, Int.reduceNe, Int.reduceLT, Int.reduceLE, Int.reduceAdd, Int.reduceSub, Int.reduceMul, Int.reduceNeg, Nat.reduceAdd, Nat.reduceLeDiff, Nat.reduceEqDiff, ne_eq, List.length_cons, List.length_nil, Nat.reduceSub, ite10_0, ite10_1, ite10_01, Classical.not_not, b0, aL, w1, c1] <;> clear w1
    clear hQ hno
    refine c_put a0 aL (by omega) fun H1 h1 => ?_
    have b1 : H1 1 0 = 2 := (h1.1 1 0 rfl).trans b0
    have a1 : H1 2 0 = 3 := (h1.1 2 0 rfl).trans a0
    have p1 : putR H H1 L 4 (fdB (five a b c e g)) := by
      have := putR.next (n := 0) (q := 0) (x := five a b c e g) rfl ⟨Fx.rf, by rw [aL]; rfl, fun _ _ => rfl, fun j hj => absurd hj (Nat.not_lt_zero j)⟩ h1
      exact this
    simp only [en_EO_feed, e_EO_feed_0, k_EO_feed_0, e_EO_feed_1, k_EO_feed_1, rr, sh, Nat.reduceLT, Nat.reduceMul, Int.reduceToNat, Int.reduceGT, Int.reduceGE, Int.reduceNe, true_and, and_true, true_or, or_true, false_or, or_false, and_self, or_self, if_true, if_false, reduceIte, not_true_eq_false, not_false_eq_true, Int.reduceEq, Int.reduceNe, Int.reduceLT, Int.reduceLE, Int.reduceAdd, Int.reduceSub, Int.reduceMul, Int.reduceNeg, Nat.reduceAdd, Nat.reduceLeDiff, Nat.reduceEqDiff, ne_eq, List.length_cons, List.length_nil, Nat.reduceSub, ite10_0, ite10_1, ite10_01, Classical.not_not, b1]
    refine c_put a1 p1.2.1 (by omega) fun H2 h2 => ?_
    have b2 : H2 1 0 = 2 := (h2.1 1 0 rfl).trans b1
    have a2 : H2 2 0 = 3 := (h2.1 2 0 rfl).trans a1
    have p2 := p1.next (q := 1) rfl h2
    simp only [en_EO_feed, e_EO_feed_0, k_EO_feed_0, e_EO_feed_1, k_EO_feed_1, rr, sh, Nat.reduceLT, Nat.reduceMul, Int.reduceToNat, Int.reduceGT, Int.reduceGE, Int.reduceNe, true_and, and_true, true_or, or_true, false_or, or_false, and_self, or_self, if_true, if_false, reduceIte, not_true_eq_false, not_false_eq_true, Int.reduceEq, Int.reduceNe, Int.reduceLT, Int.reduceLE, Int.reduceAdd, Int.reduceSub, Int.reduceMul, Int.reduceNeg, Nat.reduceAdd, Nat.reduceLeDiff, Nat.reduceEqDiff, ne_eq, List.length_cons, List.length_nil, Nat.reduceSub, ite10_0, ite10_1, ite10_01, Classical.not_not, b2]
    refine c_put a2 p2.2.1 (by omega) fun H3 h3 => ?_
    have b3 : H3 1 0 = 2 := (h3.1 1 0 rfl).trans b2
    have a3 : H3 2 0 = 3 := (h3.1 2 0 rfl).trans a2
    have p3 := p2.next (q := 2) rfl h3
    simp only [en_EO_feed, e_EO_feed_0, k_EO_feed_0, e_EO_feed_1, k_EO_feed_1, rr, sh, Nat.reduceLT, Nat.reduceMul, Int.reduceToNat, Int.reduceGT, Int.reduceGE, Int.reduceNe, true_and, and_true, true_or, or_true, false_or, or_false, and_self, or_self, if_true, if_false, reduceIte, not_true_eq_false, not_false_eq_true, Int.reduceEq, Int.reduceNe, Int.reduceLT, Int.reduceLE, Int.reduceAdd, Int.reduceSub, Int.reduceMul, Int.reduceNeg, Nat.reduceAdd, Nat.reduceLeDiff, Nat.reduceEqDiff, ne_eq, List.length_cons, List.length_nil, Nat.reduceSub, ite10_0, ite10_1, ite10_01, Classical.not_not, b3]
    refine c_put a3 p3.2.1 (by omega) fun H4 h4 => ?_
    have b4 : H4 1 0 = 2 := (h4.1 1 0 rfl).trans b3
    have a4 : H4 2 0 = 3 := (h4.1 2 0 rfl).trans a3
    have p4 := p3.next (q := 3) rfl h4
    simp only [en_EO_feed, e_EO_feed_0, k_EO_feed_0, e_EO_feed_1, k_EO_feed_1, rr, sh, Nat.reduceLT, Nat.reduceMul, Int.reduceToNat, Int.reduceGT, Int.reduceGE, Int.reduceNe, true_and, and_true, true_or, or_true, false_or, or_false, and_self, or_self, if_true, if_false, reduceIte, not_true_eq_false, not_false_eq_true, Int.reduceEq, Int.reduceNe, Int.reduceLT, Int.reduceLE, Int.reduceAdd, Int.reduceSub, Int.reduceMul, Int.reduceNeg, Nat.reduceAdd, Nat.reduceLeDiff, Nat.reduceEqDiff, ne_eq, List.length_cons, List.length_nil, Nat.reduceSub, ite10_0, ite10_1, ite10_01, Classical.not_not, b4]
    refine c_put a4 p4.2.1 (by omega) fun H5 h5 => ?_
    have b5 : H5 1 0 = 2 := (h5.1 1 0 rfl).trans b4
    have p5 := p4.next (q := 4) rfl h5
    have l5 := p5.2.1
    simp only [en_EO_feed, e_EO_feed_0, k_EO_feed_0, e_EO_feed_1, k_EO_feed_1, rr, sh, Nat.reduceLT, Nat.reduceMul, Int.reduceToNat, Int.reduceGT, Int.reduceGE, Int.reduceNe, true_and, and_true, true_or, or_true, false_or, or_false, and_self, or_self, if_true, if_false, reduceIte, not_true_eq_false, not_false_eq_true, Int.reduceEq, Int.reduceNe, Int.reduceLT, Int.reduceLE, Int.reduceAdd, Int.reduceSub, Int.reduceMul, Int.reduceNeg, Nat.reduceAdd, Nat.reduceLeDiff, Nat.reduceEqDiff, ne_eq, List.length_cons, List.length_nil, Nat.reduceSub, ite10_0, ite10_1, ite10_01, Classical.not_not, b5, l5]
    exact hq H5 p5
  · have c1 : (1600 : Int) < ((L + 20 : Nat) : Int) := by omega
    have hq := hno h
    simp only [en_EO_feed, e_EO_feed_0, k_EO_feed_0, e_EO_feed_1, k_EO_feed_1, en_TP_hasRoomForFive, e_TP_hasRoomForFive_0, k_TP_hasRoomForFive_0, e_TP_hasRoomForFive_1, k_TP_hasRoomForFive_1, e_TP_hasRoomForFive_2, k_TP_hasRoomForFive_2, rr, sh, Nat.reduceLT, Nat.reduceMul, Int.reduceToNat, Int.reduceGT, Int.reduceGE, Int.reduceNe, true_and, and_true, true_or, or_true, false_or, or_false, and_self, or_self, if_true, if_false, reduceIte, not_true_eq_false, not_false_eq_true, Int.reduceEq, Int.reduceNe, Int.reduceLT, Int.reduceLE, Int.reduceAdd, Int.reduceSub, Int.reduceMul, Int.reduceNeg, Nat.reduceAdd, Nat.reduceLeDiff, Nat.reduceEqDiff, ne_eq, List.length_cons, List.length_nil, Nat.reduceSub, ite10_0, ite10_1, ite10_01, Classical.not_not, b0, aL, w1, c1, q_refuse hP hH (show (0 : Int) ≤ 0 ∧ (0 : Int) < 6 by decide)] <;> clear w1
    exact hq
def sMT (a b : Int) : Bool := if a = 72 then true else if a = 71 then decide (b = 1) else false
def putM (H H' : Hp) (L n : Nat) (f : Nat → Int) : Prop := Fx sMT H H' ∧ H' 71 1 = ((L + n : Nat) : Int) ∧ (∀ k : Nat, k < L → H' 72 k = H 72 k) ∧ ∀ j : Nat, j < n → H' 72 ((L + j : Nat) : Int) = f j % 256
theorem sh_m {j : Nat} (h : j < 20) : (¬ (20 : Int) ≤ (j : Int)) ∧ w32 ((j : Int) + 1) = ((j + 1 : Nat) : Int) ∧ w32 (8 * w32 (3 - w32 ((j : Int).tmod 4))) = 24 - 8 * ((j % 4 : Nat) : Int) := by
  refine ⟨by omega, w32_s (by omega), ?_⟩
  rw [Int.tmod_eq_emod_of_nonneg (by omega), w32_id (x := (j : Int) % 4) (by omega) (by omega), w32_id (x := 3 - (j : Int) % 4) (by omega) (by omega), w32_id (by omega) (by omega)]
  omega
theorem five_q {j : Nat} (h : j < 20) {a b c e g : Int} : ((j : Int) < 4 → five a b c e g (j / 4) = a) ∧ (¬ (j : Int) < 4 → (j : Int) < 8 → five a b c e g (j / 4) = b) ∧ (¬ (j : Int) < 8 → (j : Int) < 12 → five a b c e g (j / 4) = c) ∧ (¬ (j : Int) < 12 → (j : Int) < 16 → five a b c e g (j / 4) = e) ∧ (¬ (j : Int) < 16 → five a b c e g (j / 4) = g) := by
  unfold five
  refine ⟨fun q => ?_, fun p q => ?_, fun p q => ?_, fun p q => ?_, fun p => ?_⟩
  · rw [if_pos (by omega)]
  · rw [if_neg (by omega), if_pos (by omega)]
  · rw [if_neg (by omega), if_neg (by omega), if_pos (by omega)]
  · rw [if_neg (by omega), if_neg (by omega), if_neg (by omega), if_pos (by omega)]
  · rw [if_neg (by omega), if_neg (by omega), if_neg (by omega), if_neg (by omega)]
set_option maxRecDepth 20000 in
theorem c_feedM (hP : Ptr V) (hH : Vw V H) {L : Nat} (hL : V 71 1 = L) (h2 : L ≤ 1600) {a b c e g : Int} (hno : ¬ L + 20 ≤ 1600 → Q (vi (-1)) (hs H 73 0 (w32 (V 73 0 + 1)))) (hQ : L + 20 ≤ 1600 → ∀ H', putM H H' L 20 (fdB (five a b c e g)) → Q (vi ((L + 20 : Nat) : Int)) H') : CC d MO_feed [va 71, vi a, vi b, vi c, vi e, vi g] H Q := by
  have w1 : w32 ((L : Int) + 20) = ((L + 20 : Nat) : Int) := by rw [w32_id (by omega) (by omega)]; omega
  have a0 : H 71 0 = 72 := (hH 71 0 rfl).trans (hP (71, 0, 72) (by decide +kernel))
  by_cases h : L + 20 ≤ 1600
  · have c1 : ((L + 20 : Nat) : Int) ≤ 1600 := by omega
    have hq := hQ h
    have aL : H 71 1 = L := (hH 71 1 rfl).trans hL
    simp only [en_MO_feed, e_MO_feed_0, k_MO_feed_0, e_MO_feed_1, k_MO_feed_1, rr, sh, Nat.reduceLT, Nat.reduceMul, Int.reduceToNat, Int.reduceGT, Int.reduceGE, Int.reduceNe, true_and, and_true, true_or, or_true, false_or, or_false, and_self, or_self, if_true, if_false, reduceIte, not_true_eq_false, not_false_eq_true, Int.reduceEq, Int.reduceNe, Int.reduceLT, Int.reduceLE, Int.reduceAdd, Int.reduceSub, Int.reduceMul, Int.reduceNeg, Nat.reduceAdd, Nat.reduceLeDiff, Nat.reduceEqDiff, ne_eq, List.length_cons, List.length_nil, Nat.reduceSub, ite10_0, ite10_1, ite10_01, Classical.not_not, a0, aL, w1, c1] <;> clear w1
    clear hQ hno
    have kL : H 71 1 = L := (hH 71 1 rfl).trans hL
    refine up_nat (P := fun j => ∀ H' z, putM H H' L j (fdB (five a b c e g)) → R d MO_feed (blk MO_feed 2) [va 71, vi a, vi b, vi c, vi e, vi g, vi j, z] [] H' Q) ?_ ?_ 0 (Nat.zero_le 20) H vu ⟨Fx.rf, by rw [kL]; rfl, fun _ _ => rfl, fun j hj => absurd hj (Nat.not_lt_zero j)⟩
    · intro H' z hR
      have r2 := hR.2.1
      rw [e_MO_feed_2]
      simp only [k_MO_feed_2, e_MO_feed_8, k_MO_feed_8, rr, sh, Nat.reduceLT, Nat.reduceMul, Int.reduceToNat, Int.reduceGT, Int.reduceGE, Int.reduceNe, true_and, and_true, true_or, or_true, false_or, or_false, and_self, or_self, if_true, if_false, reduceIte, not_true_eq_false, not_false_eq_true, Int.reduceEq, Int.reduceNe, Int.reduceLT, Int.reduceLE, Int.reduceAdd, Int.reduceSub, Int.reduceMul, Int.reduceNeg, Nat.reduceAdd, Nat.reduceLeDiff, Nat.reduceEqDiff, ne_eq, List.length_cons, List.length_nil, Nat.reduceSub, ite10_0, ite10_1, ite10_01, Classical.not_not, Int.le_refl, r2]
      exact hq H' hR
    · intro j hj ih H' z hR
      obtain ⟨r1, r2, r3, r4⟩ := hR
      obtain ⟨c2, c3, c4⟩ := sh_m hj
      obtain ⟨i1, i2, i3⟩ := put_ix (show L + j < 1600 by omega)
      have a1 : H' 71 0 = 72 := (r1 71 0 rfl).trans a0
      have a2 : ∀ v, hs H' 72 ((L + j : Nat) : Int) v 71 1 = ((L + j : Nat) : Int) := fun v => by rw [hs_ne (by decide)]; exact r2
      have tail : ∀ x, x = five a b c e g (j / 4) → R d MO_feed (blk MO_feed 7) [va 71, vi a, vi b, vi c, vi e, vi g, vi j, z] [vi x] H' Q := by
        intro x hx
        have hb : b_shr x (24 - 8 * ((j % 4 : Nat) : Int)) % 256 = fdB (five a b c e g) j % 256 := by rw [hx]; rfl
        have := ih (hs (hs H' 72 ((L + j : Nat) : Int) (b_shr x (24 - 8 * ((j % 4 : Nat) : Int)) % 256)) 71 1 ((L + (j + 1) : Nat) : Int)) (vi x) ⟨(r1.hs (c := 72) (j := ((L + j : Nat) : Int)) rfl).hs (c := 71) (j := 1) rfl, hs_same, fun k hk => by
          have n1 : ¬ ((72 : Int) = 72 ∧ (k : Int) = ((L + j : Nat) : Int)) := by omega
          rw [hs_ne (by decide), hs_app, if_neg n1]; exact r3 k hk, fun i hi => by
          rw [hs_ne (by decide), hs_app]
          by_cases q : i = j
          · subst q; rw [if_pos ⟨rfl, rfl⟩]; exact hb
          · have n1 : ¬ ((72 : Int) = 72 ∧ ((L + i : Nat) : Int) = ((L + j : Nat) : Int)) := by omega
            rw [if_neg n1]; exact r4 i (Nat.lt_of_le_of_ne (Nat.le_of_lt_succ hi) q)⟩
        simp only [e_MO_feed_7, k_MO_feed_7, rr, sh, Nat.reduceLT, Nat.reduceMul, Int.reduceToNat, Int.reduceGT, Int.reduceGE, Int.reduceNe, true_and, and_true, true_or, or_true, false_or, or_false, and_self, or_self, if_true, if_false, reduceIte, not_true_eq_false, not_false_eq_true, Int.reduceEq, Int.reduceNe, Int.reduceLT, Int.reduceLE, Int.reduceAdd, Int.reduceSub, Int.reduceMul, Int.reduceNeg, Nat.reduceAdd, Nat.reduceLeDiff, Nat.reduceEqDiff, ne_eq, List.length_cons, List.length_nil, Nat.reduceSub, ite10_0, ite10_1, ite10_01, Classical.not_not, a1, r2, i1, i2, c4, b_and255, a2, i3, c3]
        exact this
      obtain ⟨f1, f2, f3, f4, f5⟩ := five_q hj (a := a) (b := b) (c := c) (e := e) (g := g)
      rw [e_MO_feed_2]
      simp only [k_MO_feed_2, e_MO_feed_3, k_MO_feed_3, e_MO_feed_4, k_MO_feed_4, e_MO_feed_5, k_MO_feed_5, e_MO_feed_6, k_MO_feed_6, rr, sh, Nat.reduceLT, Nat.reduceMul, Int.reduceToNat, Int.reduceGT, Int.reduceGE, Int.reduceNe, true_and, and_true, true_or, or_true, false_or, or_false, and_self, or_self, if_true, if_false, reduceIte, not_true_eq_false, not_false_eq_true, Int.reduceEq, Int.reduceNe, Int.reduceLT, Int.reduceLE, Int.reduceAdd, Int.reduceSub, Int.reduceMul, Int.reduceNeg, Nat.reduceAdd, Nat.reduceLeDiff, Nat.reduceEqDiff, ne_eq, List.length_cons, List.length_nil, Nat.reduceSub, c2]
      by_cases q1 : (j : Int) < 4
      · rw [if_neg (Int.not_le.mpr q1)]; exact tail _ (f1 q1).symm
      · rw [if_pos (Int.not_lt.mp q1)]
        by_cases q2 : (j : Int) < 8
        · rw [if_neg (Int.not_le.mpr q2)]; exact tail _ (f2 q1 q2).symm
        · rw [if_pos (Int.not_lt.mp q2)]
          by_cases q3 : (j : Int) < 12
          · rw [if_neg (Int.not_le.mpr q3)]; exact tail _ (f3 q2 q3).symm
          · rw [if_pos (Int.not_lt.mp q3)]
            by_cases q4 : (j : Int) < 16
            · rw [if_neg (Int.not_le.mpr q4)]; exact tail _ (f4 q3 q4).symm
            · rw [if_pos (Int.not_lt.mp q4)]; exact tail _ (f5 q4).symm
  · have c1 : ¬ ((L + 20 : Nat) : Int) ≤ 1600 := by omega
    have hq := hno h
    have aL : H 71 1 = L := (hH 71 1 rfl).trans hL
    have f := hH.f hP
    simp only [en_MO_feed, e_MO_feed_0, k_MO_feed_0, rr, sh, Nat.reduceLT, Nat.reduceMul, Int.reduceToNat, Int.reduceGT, Int.reduceGE, Int.reduceNe, true_and, and_true, true_or, or_true, false_or, or_false, and_self, or_self, if_true, if_false, reduceIte, not_true_eq_false, not_false_eq_true, Int.reduceEq, Int.reduceNe, Int.reduceLT, Int.reduceLE, Int.reduceAdd, Int.reduceSub, Int.reduceMul, Int.reduceNeg, Nat.reduceAdd, Nat.reduceLeDiff, Nat.reduceEqDiff, ne_eq, List.length_cons, List.length_nil, Nat.reduceSub, f, hL, w1, c1]
    exact hq
end FD
