/-! images -/
theorem l_and255 {x : Int} : l_and x 255 = x % 256 := by
  show (Int64.ofInt x &&& Int64.ofInt 255).toBitVec.toInt = _
  rw [Int64.toBitVec_and]
  have e1 : (Int64.ofInt 255).toBitVec.toNat = 255 := by decide
  have e2 : (Int64.ofInt x).toBitVec.toNat = (x % 18446744073709551616).toNat := by
    show (BitVec.ofInt 64 x).toNat = _
    rw [BitVec.toNat_ofInt]; rfl
  have e3 : ((Int64.ofInt x).toBitVec &&& (Int64.ofInt 255).toBitVec).toNat = (x % 256).toNat := by
    rw [BitVec.toNat_and, e1, e2, show (255 : Nat) = 2 ^ 8 - 1 from rfl, Nat.and_two_pow_sub_one_eq_mod]
    omega
  rw [bv_int e3 (by omega)]
  omega
theorem w8_e {x y : Int} (h : x % 256 = y % 256) : w8 x = w8 y := by unfold w8; omega
theorem w32_256 (x : Int) : w32 x % 256 = x % 256 := by unfold w32; omega
def imE (V : Hp) (k : Nat) : Int := if k = 0 then V 71 47 / 256 else if k = 1 then V 71 47 % 256 else if k < 10 then l_shr (V 71 48) (56 - 8 * ((k - 2 : Nat) : Int)) % 256 else if k % 2 = 0 then V 107 ((k - 10) / 2 : Nat) + 1 else if (sdV V).testBit ((k - 10) / 2) then 1 else 0
def ckS (f : Nat → Int) : Nat → Int
  | 0 => 107
  | n + 1 => (5 * ckS f n + f n) % 251
def imF (V : Hp) (k : Nat) : Int := if k = 10 + 2 * nS V then ckS (imE V) (10 + 2 * nS V) else imE V k
theorem ckS_rng (f : Nat → Int) (n : Nat) : 0 ≤ ckS f n ∧ ckS f n < 251 := by
  cases n with
  | zero => show (0 : Int) ≤ 107 ∧ (107 : Int) < 251; decide
  | succ n => exact ⟨Int.emod_nonneg _ (by decide), Int.emod_lt_of_pos _ (by decide)⟩
theorem imE_rng {V : Hp} (hM : Inm V) {k : Nat} (hk : k < 10 + 2 * nS V) : 0 ≤ imE V k ∧ imE V k < 256 := by
  have hn := hM.boat.s
  have hr := hM.boat.r
  have ht := hM.crew.stroke
  unfold imE
  split
  · omega
  · split
    · omega
    · split
      · exact ⟨Int.emod_nonneg _ (by decide), Int.emod_lt_of_pos _ (by decide)⟩
      · split
        · have := hM.crew.sits ((k - 10) / 2) (by omega)
          omega
        · split <;> decide
theorem imF_rng {V : Hp} (hM : Inm V) {k : Nat} (hk : k < 11 + 2 * nS V) : 0 ≤ imF V k ∧ imF V k < 256 := by
  unfold imF
  have := ckS_rng (imE V) (10 + 2 * nS V)
  split
  · exact ⟨this.1, Int.lt_trans this.2 (by decide)⟩
  · exact imE_rng hM (by omega)
theorem imE_h {V : Hp} {k : Nat} (hk : k < 8) : imE V (2 + k) = l_shr (V 71 48) (56 - 8 * (k : Int)) % 256 := by
  unfold imE
  rw [if_neg (by omega), if_neg (by omega), if_pos (by omega), show 2 + k - 2 = k by omega]
theorem imE_s {V : Hp} {k : Nat} : imE V (10 + 2 * k) = V 107 k + 1 ∧ imE V (10 + 2 * k + 1) = if (sdV V).testBit k then 1 else 0 := by
  unfold imE
  constructor
  · rw [if_neg (by omega), if_neg (by omega), if_neg (by omega), if_pos (by omega), show (10 + 2 * k - 10) / 2 = k by omega]
  · rw [if_neg (by omega), if_neg (by omega), if_neg (by omega), if_neg (by omega), show (10 + 2 * k + 1 - 10) / 2 = k by omega]
theorem imF_e {V : Hp} {k : Nat} (hk : k < 10 + 2 * nS V) : imF V k = imE V k := by unfold imF; rw [if_neg (by omega)]
def imC (a b : Int) : Bool := if a = 24 then true else if a = 4 then decide (b = 13) else false
def imM (a b : Int) : Bool := if a = 139 then true else if a = 71 then decide (b = 98) else false
def wr (V X : Hp) (n : Nat) : Prop := Fx imC V X ∧ X 4 13 = n ∧ ∀ k : Nat, k < n → X 24 k = w8 (imF V k)
section IM
variable {d : Nat} {V X : Hp} {Q : AV → Hp → Prop}
theorem c_wOct (hP : Ptr V) {n : Nat} {x : Int} (hw : wr V X n) (hn : n < 35) (e : x % 256 = imF V n % 256) (hQ : ∀ H', wr V H' (n + 1) → Q vu H') : CC d CW_writeOctet [va 4, vi x] X Q := by
  obtain ⟨a1, a2, a3⟩ := hw
  have p12 : X 4 12 = 24 := (a1 4 12 rfl).trans (hP (4, 12, 24) (by decide +kernel))
  have c1 : ¬ (35 : Int) ≤ n := by clear e a2 a3; omega
  have j1 : 0 ≤ (n : Int) ∧ (n : Int) < 35 := by clear e a2 a3; omega
  have kw := w32_s (n := n) (by clear e a2 a3; omega)
  have z13 : ∀ v, hs X 24 n v 4 13 = n := fun v => (hs2 (fun z => absurd z.1 (by decide))).trans a2
  simp only [en_CW_writeOctet, e_CW_writeOctet_0, k_CW_writeOctet_0, e_CW_writeOctet_1, k_CW_writeOctet_1, rr, sh, Nat.reduceLT, Nat.reduceMul, Int.reduceToNat, Int.reduceGT, Int.reduceGE, Int.reduceNe, true_and, and_true, true_or, or_true, false_or, or_false, and_self, or_self, if_true, if_false, reduceIte, not_true_eq_false, not_false_eq_true, Int.reduceEq, Int.reduceNe, Int.reduceLT, Int.reduceLE, Int.reduceAdd, Int.reduceSub, Int.reduceMul, Int.reduceNeg, Nat.reduceAdd, Nat.reduceLeDiff, Nat.reduceEqDiff, ne_eq, List.length_cons, List.length_nil, Nat.reduceSub, p12, a2, c1, j1, w8_w8, z13, kw]
  refine hQ _ ⟨(a1.hs (c := 24) rfl).hs (c := 4) (j := 13) rfl, hs_same, fun k hk => ?_⟩
  rw [hs_ne (by decide), hs_at]
  by_cases h : k = n
  · subst h; rw [if_pos rfl]; exact w8_e e
  · rw [if_neg (fun z => h (Int.ofNat_inj.mp z))]
    exact a3 k (Nat.lt_of_le_of_ne (Nat.le_of_lt_succ hk) h)
set_option maxRecDepth 20000 in
theorem c_imageC (hI : Inq V) (hQ : ∀ H', wr V H' (11 + 2 * nS V) → Q (vi ((11 + 2 * nS V : Nat) : Int)) H') : CC (d + 2) EO_image [va 1] V Q := by
  have p1 : V 1 1 = 4 := hI.ptr (1, 1, 4) (by decide +kernel)
  have hn := hI.boat.s
  have hn2 := hn.2
  have ht := hI.crew.stroke
  have e43 : V 4 3 = V 71 47 := hI.cc.stroke
  have z3 : hs V 4 13 0 4 3 = V 71 47 := (hs2 (by decide)).trans e43
  have w1 : b_shr (V 71 47) 8 = V 71 47 / 256 := by rw [show (8 : Int) = ((8 : Nat) : Int) from rfl, b_shr_int _ (by omega) (by omega) (by omega)]; rfl
  have i0 : imF V 0 = V 71 47 / 256 := by rw [imF_e (by omega)]; rfl
  have i1 : imF V 1 = V 71 47 % 256 := by rw [imF_e (by omega)]; rfl
  have f : ∀ {H n}, wr V H n → H 4 0 = V 4 0 ∧ H 4 1 = 18 ∧ H 4 2 = 19 ∧ H 4 3 = V 71 47 ∧ H 4 4 = V 71 48 ∧ H 18 = V 18 ∧ H 19 = V 19 ∧ H (V 4 0) 0 = nS V ∧ H 4 12 = 24 := fun {H n} h => by
    refine ⟨h.1 4 0 rfl, (h.1 4 1 rfl).trans (hI.ptr (4, 1, 18) (by decide +kernel)), (h.1 4 2 rfl).trans (hI.ptr (4, 2, 19) (by decide +kernel)), (h.1 4 3 rfl).trans e43, (h.1 4 4 rfl).trans hI.cc.heading, h.1.cell 18 (fun _ => rfl), h.1.cell 19 (fun _ => rfl), ?_, (h.1 4 12 rfl).trans (hI.ptr (4, 12, 24) (by decide +kernel))⟩
    rw [← hI.plan.1]
    refine h.1 _ _ ?_
    rcases hI.pp with e | e <;> rw [e] <;> rfl
  simp only [en_EO_image, e_EO_image_0, k_EO_image_0, en_CW_writeImage, e_CW_writeImage_0, k_CW_writeImage_0, rr, sh, Nat.reduceLT, Nat.reduceMul, Int.reduceToNat, Int.reduceGT, Int.reduceGE, Int.reduceNe, true_and, and_true, true_or, or_true, false_or, or_false, and_self, or_self, if_true, if_false, reduceIte, not_true_eq_false, not_false_eq_true, Int.reduceEq, Int.reduceNe, Int.reduceLT, Int.reduceLE, Int.reduceAdd, Int.reduceSub, Int.reduceMul, Int.reduceNeg, Nat.reduceAdd, Nat.reduceLeDiff, Nat.reduceEqDiff, ne_eq, List.length_cons, List.length_nil, Nat.reduceSub, p1, z3, w1]
  refine c_wOct hI.ptr (n := 0) ⟨Fx.rf.hs (c := 4) (j := 13) rfl, hs_same, fun k hk => absurd hk (Nat.not_lt_zero k)⟩ (by decide) (by rw [i0]) fun H1 h1 => ?_
  simp only [rr, sh, Nat.reduceLT, Nat.reduceMul, Int.reduceToNat, Int.reduceGT, Int.reduceGE, Int.reduceNe, true_and, and_true, true_or, or_true, false_or, or_false, and_self, or_self, if_true, if_false, reduceIte, not_true_eq_false, not_false_eq_true, Int.reduceEq, Int.reduceNe, Int.reduceLT, Int.reduceLE, Int.reduceAdd, Int.reduceSub, Int.reduceMul, Int.reduceNeg, Nat.reduceAdd, Nat.reduceLeDiff, Nat.reduceEqDiff, ne_eq, List.length_cons, List.length_nil, Nat.reduceSub, (f h1).2.2.2.1]
  refine c_wOct hI.ptr (n := 1) h1 (by decide) (by rw [i1]; omega) fun H2 h2 => ?_
  refine up_nat (P := fun k => ∀ H', wr V H' (2 + k) → R (d + 1) CW_writeImage (blk CW_writeImage 1) [va 4, vi (56 - 8 * (k : Int)), vu] [] H' _) ?_ ?_ 0 (Nat.zero_le 8) _ h2
  · intro H' hw
    have c1 : 56 - 8 * ((8 : Nat) : Int) < 0 := by decide
    rw [e_CW_writeImage_1]
    simp only [k_CW_writeImage_1, e_CW_writeImage_2, k_CW_writeImage_2, rr, sh, Nat.reduceLT, Nat.reduceMul, Int.reduceToNat, Int.reduceGT, Int.reduceGE, Int.reduceNe, true_and, and_true, true_or, or_true, false_or, or_false, and_self, or_self, if_true, if_false, reduceIte, not_true_eq_false, not_false_eq_true, Int.reduceEq, Int.reduceNe, Int.reduceLT, Int.reduceLE, Int.reduceAdd, Int.reduceSub, Int.reduceMul, Int.reduceNeg, Nat.reduceAdd, Nat.reduceLeDiff, Nat.reduceEqDiff, ne_eq, List.length_cons, List.length_nil, Nat.reduceSub, c1]
    refine up_nat (P := fun k => ∀ H', wr V H' (10 + 2 * k) → R (d + 1) CW_writeImage (blk CW_writeImage 3) [va 4, vi k, vu] [] H' _) ?_ ?_ 0 (Nat.zero_le (nS V)) _ hw
    · intro H' hw
      have z1 := shp hI
      rw [e_CW_writeImage_3]
      simp only [k_CW_writeImage_3, e_CW_writeImage_4, k_CW_writeImage_4, rr, sh, Nat.reduceLT, Nat.reduceMul, Int.reduceToNat, Int.reduceGT, Int.reduceGE, Int.reduceNe, true_and, and_true, true_or, or_true, false_or, or_false, and_self, or_self, if_true, if_false, reduceIte, not_true_eq_false, not_false_eq_true, Int.reduceEq, Int.reduceNe, Int.reduceLT, Int.reduceLE, Int.reduceAdd, Int.reduceSub, Int.reduceMul, Int.reduceNeg, Nat.reduceAdd, Nat.reduceLeDiff, Nat.reduceEqDiff, ne_eq, List.length_cons, List.length_nil, Nat.reduceSub, (f hw).1, (f hw).2.2.2.2.2.2.2.1, z1, Int.le_refl]
      refine up_nat (P := fun k => R (d + 1) CW_writeImage (blk CW_writeImage 5) [va 4, vi (ckS (imE V) k), vi k] [] H' _) ?_ ?_ 0 (Nat.zero_le (10 + 2 * nS V))
      · rw [e_CW_writeImage_5]
        simp only [k_CW_writeImage_5, e_CW_writeImage_6, k_CW_writeImage_6, rr, sh, Nat.reduceLT, Nat.reduceMul, Int.reduceToNat, Int.reduceGT, Int.reduceGE, Int.reduceNe, true_and, and_true, true_or, or_true, false_or, or_false, and_self, or_self, if_true, if_false, reduceIte, not_true_eq_false, not_false_eq_true, Int.reduceEq, Int.reduceNe, Int.reduceLT, Int.reduceLE, Int.reduceAdd, Int.reduceSub, Int.reduceMul, Int.reduceNeg, Nat.reduceAdd, Nat.reduceLeDiff, Nat.reduceEqDiff, ne_eq, List.length_cons, List.length_nil, Nat.reduceSub, hw.2.1, Int.le_refl]
        refine c_wOct hI.ptr hw (by clear hw i0 i1 w1 z3 z1; omega) (by unfold imF; rw [if_pos rfl]) fun H3 h3 => ?_
        simp only [rr, sh, Nat.reduceLT, Nat.reduceMul, Int.reduceToNat, Int.reduceGT, Int.reduceGE, Int.reduceNe, true_and, and_true, true_or, or_true, false_or, or_false, and_self, or_self, if_true, if_false, reduceIte, not_true_eq_false, not_false_eq_true, Int.reduceEq, Int.reduceNe, Int.reduceLT, Int.reduceLE, Int.reduceAdd, Int.reduceSub, Int.reduceMul, Int.reduceNeg, Nat.reduceAdd, Nat.reduceLeDiff, Nat.reduceEqDiff, ne_eq, List.length_cons, List.length_nil, Nat.reduceSub, h3.2.1]
        have := hQ H3 (by rw [show 11 + 2 * nS V = 10 + 2 * nS V + 1 by omega]; exact h3)
        rw [show 11 + 2 * nS V = 10 + 2 * nS V + 1 by omega] at this
        exact this
      · intro k hk ih
        have c1 : ¬ ((10 + 2 * nS V : Nat) : Int) ≤ k := by clear ih hw i0 i1 w1 z3 z1; omega
        have j1 : 0 ≤ (k : Int) ∧ (k : Int) < 35 := by clear ih hw i0 i1 w1 z3 z1; omega
        have kw := w32_s (n := k) (by clear ih hw i0 i1 w1 z3 z1; omega)
        have hr := imE_rng hI.m hk
        have e24 : H' 24 k % 256 = imE V k := by
          rw [hw.2.2 k hk, (w8_mod _).1, imF_e hk]
          exact Int.emod_eq_of_lt hr.1 hr.2
        have hc := ckS_rng (imE V) k
        have w5 : w32 ((w32 (w32 (5 * ckS (imE V) k) + imE V k)).tmod 251) = ckS (imE V) (k + 1) := by
          show _ = (5 * ckS (imE V) k + imE V k) % 251
          generalize ckS (imE V) k = y at hc ⊢
          generalize imE V k = x at hr ⊢
          clear ih hw i0 i1 w1 z3 z1 kw e24
          rw [w32_id (x := 5 * y) (by omega) (by omega), w32_id (x := 5 * y + x) (by omega) (by omega), Int.tmod_eq_emod_of_nonneg (by omega), w32_id (by omega) (by omega)]
        rw [e_CW_writeImage_5]
        simp only [k_CW_writeImage_5, en_CW_checkOn, e_CW_checkOn_0, k_CW_checkOn_0, rr, sh, Nat.reduceLT, Nat.reduceMul, Int.reduceToNat, Int.reduceGT, Int.reduceGE, Int.reduceNe, true_and, and_true, true_or, or_true, false_or, or_false, and_self, or_self, if_true, if_false, reduceIte, not_true_eq_false, not_false_eq_true, Int.reduceEq, Int.reduceNe, Int.reduceLT, Int.reduceLE, Int.reduceAdd, Int.reduceSub, Int.reduceMul, Int.reduceNeg, Nat.reduceAdd, Nat.reduceLeDiff, Nat.reduceEqDiff, ne_eq, List.length_cons, List.length_nil, Nat.reduceSub, hw.2.1, c1, (f hw).2.2.2.2.2.2.2.2, j1, b_and255, e24, w5, kw]
        exact ih
    · intro k hk ih H' hw
      have c1 : ¬ (nS V : Int) ≤ k := by clear ih hw i0 i1 w1 z3; omega
      have j1 : 0 ≤ (k : Int) ∧ (k : Int) < 12 := by clear ih hw i0 i1 w1 z3; omega
      have k12 : k < 12 := by clear ih hw i0 i1 w1 z3; omega
      have kw := w32_s (n := k) (by clear ih hw i0 i1 w1 z3; omega)
      have z1 := shp hI
      have hs1 := hI.crew.sits k hk
      have hr := hI.boat.r
      have e1 := hI.cc.sits k hk
      have e2 := hI.cc.right k hk
      have w9 : w32 (V 107 k + 1) = V 107 k + 1 := w32_id (by clear ih hw i0 i1 w1 z3 z1 kw e1 e2; omega) (by clear ih hw i0 i1 w1 z3 z1 kw e1 e2; omega)
      rw [e_CW_writeImage_3]
      simp only [k_CW_writeImage_3, rr, sh, Nat.reduceLT, Nat.reduceMul, Int.reduceToNat, Int.reduceGT, Int.reduceGE, Int.reduceNe, true_and, and_true, true_or, or_true, false_or, or_false, and_self, or_self, if_true, if_false, reduceIte, not_true_eq_false, not_false_eq_true, Int.reduceEq, Int.reduceNe, Int.reduceLT, Int.reduceLE, Int.reduceAdd, Int.reduceSub, Int.reduceMul, Int.reduceNeg, Nat.reduceAdd, Nat.reduceLeDiff, Nat.reduceEqDiff, ne_eq, List.length_cons, List.length_nil, Nat.reduceSub, (f hw).1, (f hw).2.1, (f hw).2.2.2.2.2.1, (f hw).2.2.2.2.2.2.2.1, z1, c1, j1, e1, w9]
      refine c_wOct hI.ptr hw (by clear ih hw i0 i1 w1 z3 z1 kw e1 e2 w9; omega) (by rw [imF_e (by clear ih hw i0 i1 w1 z3 z1 kw e1 e2 w9; omega), imE_s.1]) fun H3 h3 => ?_
      simp only [rr, sh, Nat.reduceLT, Nat.reduceMul, Int.reduceToNat, Int.reduceGT, Int.reduceGE, Int.reduceNe, true_and, and_true, true_or, or_true, false_or, or_false, and_self, or_self, if_true, if_false, reduceIte, not_true_eq_false, not_false_eq_true, Int.reduceEq, Int.reduceNe, Int.reduceLT, Int.reduceLE, Int.reduceAdd, Int.reduceSub, Int.reduceMul, Int.reduceNeg, Nat.reduceAdd, Nat.reduceLeDiff, Nat.reduceEqDiff, ne_eq, List.length_cons, List.length_nil, Nat.reduceSub, (f h3).2.2.1, (f h3).2.2.2.2.2.2.1, j1, e2]
      refine c_wOct hI.ptr h3 (by clear ih hw i0 i1 w1 z3 z1 kw e1 e2 w9 h3; omega) (by rw [imF_e (by clear ih hw i0 i1 w1 z3 z1 kw e1 e2 w9 h3; omega), imE_s.2]) fun H4 h4 => ?_
      simp only [rr, sh, Nat.reduceLT, Nat.reduceMul, Int.reduceToNat, Int.reduceGT, Int.reduceGE, Int.reduceNe, true_and, and_true, true_or, or_true, false_or, or_false, and_self, or_self, if_true, if_false, reduceIte, not_true_eq_false, not_false_eq_true, Int.reduceEq, Int.reduceNe, Int.reduceLT, Int.reduceLE, Int.reduceAdd, Int.reduceSub, Int.reduceMul, Int.reduceNeg, Nat.reduceAdd, Nat.reduceLeDiff, Nat.reduceEqDiff, ne_eq, List.length_cons, List.length_nil, Nat.reduceSub, kw]
      exact ih H4 h4
  · intro k hk ih H' hw
    have c1 : ¬ 56 - 8 * (k : Int) < 0 := by clear ih hw i0 i1 w1 z3; omega
    have kw : w32 (56 - 8 * (k : Int) + -8) = 56 - 8 * ((k + 1 : Nat) : Int) := by
      rw [w32_id (by clear ih hw i0 i1 w1 z3; omega) (by clear ih hw i0 i1 w1 z3; omega)]; clear ih hw i0 i1 w1 z3; omega
    rw [e_CW_writeImage_1]
    simp only [k_CW_writeImage_1, rr, sh, Nat.reduceLT, Nat.reduceMul, Int.reduceToNat, Int.reduceGT, Int.reduceGE, Int.reduceNe, true_and, and_true, true_or, or_true, false_or, or_false, and_self, or_self, if_true, if_false, reduceIte, not_true_eq_false, not_false_eq_true, Int.reduceEq, Int.reduceNe, Int.reduceLT, Int.reduceLE, Int.reduceAdd, Int.reduceSub, Int.reduceMul, Int.reduceNeg, Nat.reduceAdd, Nat.reduceLeDiff, Nat.reduceEqDiff, ne_eq, List.length_cons, List.length_nil, Nat.reduceSub, c1, (f hw).2.2.2.2.1]
    refine c_wOct hI.ptr hw (by clear ih hw i0 i1 w1 z3 kw; omega) ?_ fun H3 h3 => ?_
    · rw [imF_e (by clear ih hw i0 i1 w1 z3 kw; omega), imE_h hk, Int.emod_emod_of_dvd _ (Int.dvd_refl 256), w32_256]
    · simp only [rr, sh, Nat.reduceLT, Nat.reduceMul, Int.reduceToNat, Int.reduceGT, Int.reduceGE, Int.reduceNe, true_and, and_true, true_or, or_true, false_or, or_false, and_self, or_self, if_true, if_false, reduceIte, not_true_eq_false, not_false_eq_true, Int.reduceEq, Int.reduceNe, Int.reduceLT, Int.reduceLE, Int.reduceAdd, Int.reduceSub, Int.reduceMul, Int.reduceNeg, Nat.reduceAdd, Nat.reduceLeDiff, Nat.reduceEqDiff, ne_eq, List.length_cons, List.length_nil, Nat.reduceSub, kw]
      exact ih H3 h3
end IM
