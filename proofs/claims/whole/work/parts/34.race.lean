/-! races -/
def mxI (f : Int → Int) (lo : Int) : Nat → Int
  | 0 => 0
  | n + 1 => max (mxI f lo n) (f (lo + n))
theorem mxI_le {f : Int → Int} {lo M : Int} : ∀ {n : Nat}, mxI f lo n ≤ M ↔ 0 ≤ M ∧ ∀ i : Nat, i < n → f (lo + i) ≤ M
  | 0 => ⟨fun h => ⟨h, fun i hi => absurd hi (Nat.not_lt_zero i)⟩, fun h => h.1⟩
  | n + 1 => by
    show max (mxI f lo n) (f (lo + n)) ≤ M ↔ _
    rw [Int.max_le, mxI_le (n := n)]
    exact ⟨fun ⟨⟨h1, h2⟩, h3⟩ => ⟨h1, fun i hi => by rcases Nat.lt_or_ge i n with h | h; exact h2 i h; rw [show i = n by omega]; exact h3⟩, fun ⟨h1, h2⟩ => ⟨⟨h1, fun i hi => h2 i (by omega)⟩, h2 n (by omega)⟩⟩
theorem mxI_eq {f g : Int → Int} {a b : Int} {n m : Nat} (h1 : ∀ i : Nat, i < n → ∃ j : Nat, j < m ∧ f (a + i) = g (b + j)) (h2 : ∀ j : Nat, j < m → ∃ i : Nat, i < n ∧ g (b + j) = f (a + i)) : mxI f a n = mxI g b m := by
  apply Int.le_antisymm
  · have h := (mxI_le (f := g) (lo := b) (n := m)).mp (Int.le_refl _)
    refine mxI_le.mpr ⟨h.1, fun i hi => ?_⟩
    obtain ⟨j, hj, e⟩ := h1 i hi
    rw [e]; exact h.2 j hj
  · have h := (mxI_le (f := f) (lo := a) (n := n)).mp (Int.le_refl _)
    refine mxI_le.mpr ⟨h.1, fun i hi => ?_⟩
    obtain ⟨j, hj, e⟩ := h2 i hi
    rw [e]; exact h.2 j hj
theorem sww_ten (V : Hp) (q b : Nat) (t : Int) : sww V q b t = sww V q b (t / 10 * 10) := by
  have e : t / 10 * 10 / 10 = t / 10 := by omega
  unfold sww frc stg
  rw [e]
def swA (V : Hp) (b : Nat) (t : Int) : Int := abL (w64 (sww V 1 b t))
def ftn (V : Hp) : Int := (V 71 47 + 1) / 10
def ntn (V : Hp) (n : Int) : Nat := ((V 71 47 + n) / 10 - (V 71 47 + 1) / 10 + 1).toNat
def grS (V : Hp) (n : Nat) (b : Nat) : Int := mxI (swA V b) (V 71 47 + 1) n
theorem gr_ten {V : Hp} {n b : Nat} (hn : 1 ≤ n) (h0 : 0 ≤ V 71 47) : mxI (fun t => swA V b (t * 10)) (ftn V) (ntn V n) = grS V n b := by
  refine mxI_eq (fun i hi => ?_) (fun i hi => ?_)
  · unfold ntn ftn at *
    rcases Nat.eq_zero_or_pos i with h | h
    · subst h
      refine ⟨0, by omega, ?_⟩
      unfold swA
      rw [sww_ten V 1 b (V 71 47 + 1 + _)]
      rw [show (V 71 47 + 1) / 10 + ((0 : Nat) : Int) = (V 71 47 + 1 + ((0 : Nat) : Int)) / 10 by omega]
    · obtain ⟨j, hj⟩ : ∃ j : Nat, (j : Int) = ((V 71 47 + 1) / 10 + i) * 10 - (V 71 47 + 1) := ⟨_, Int.toNat_of_nonneg (by omega)⟩
      refine ⟨j, by omega, ?_⟩
      unfold swA
      rw [sww_ten V 1 b (V 71 47 + 1 + _)]
      rw [show (V 71 47 + 1) / 10 + (i : Int) = (V 71 47 + 1 + j) / 10 by omega]
  · unfold ntn ftn
    refine ⟨((V 71 47 + 1 + i) / 10 - (V 71 47 + 1) / 10).toNat, by omega, ?_⟩
    unfold swA
    rw [sww_ten V 1 b (V 71 47 + 1 + _)]
    rw [show (V 71 47 + 1) / 10 + (((V 71 47 + 1 + (i : Int)) / 10 - (V 71 47 + 1) / 10).toNat : Int) = (V 71 47 + 1 + i) / 10 by omega]
def raceS (V : Hp) (n : Int) : Int := if 1 ≤ n ∧ n ≤ 300 then grS V n.toNat (sdV V) else -1
section RA
variable {d : Nat} {V H : Hp} {Q : AV → Hp → Prop}
theorem q_greater {x y : Int} : CC d MO_greater [vl x, vl y] H Q = Q (vl (max x y)) H := by
  simp only [en_MO_greater, e_MO_greater_0, k_MO_greater_0, e_MO_greater_1, k_MO_greater_1, e_MO_greater_2, k_MO_greater_2, rr, sh, Nat.reduceLT, Nat.reduceMul, Int.reduceToNat, Int.reduceGT, Int.reduceGE, Int.reduceNe, true_and, and_true, true_or, or_true, false_or, or_false, and_self, or_self, if_true, if_false, reduceIte, not_true_eq_false, not_false_eq_true, Int.reduceEq, Int.reduceNe, Int.reduceLT, Int.reduceLE, Int.reduceAdd, Int.reduceSub, Int.reduceMul, Int.reduceNeg, Nat.reduceAdd, Nat.reduceLeDiff, Nat.reduceEqDiff, ne_eq, List.length_cons, List.length_nil, Nat.reduceSub, ite10_0, ite10_1, ite10_01, Classical.not_not, c3_le]
  split <;> (congr 2; omega)
theorem q_firstTen (hI : Inq V) (hH : Vw V H) : CC d RA_firstTen [va 4] H Q = Q (vi (ftn V)) H := by
  refine CC_dt fun Q hQ => ?_
  have ht := hI.crew.stroke
  have hst := hI.cc.stroke
  have w1 : w32 (V 71 47 + 1) = V 71 47 + 1 := w32_id (by omega) (by omega)
  have w2 : w32 ((V 71 47 + 1).tdiv 10) = ftn V := by rw [tdiv_nn (by omega), w32_id (by omega) (by omega)]; rfl
  have f := hH.f hI.ptr; have g := pl_f hH hI.pp hI.ptr; simp only [en_RA_firstTen, e_RA_firstTen_0, k_RA_firstTen_0, rr, sh, Nat.reduceLT, Nat.reduceMul, Int.reduceToNat, Int.reduceGT, Int.reduceGE, Int.reduceNe, true_and, and_true, true_or, or_true, false_or, or_false, and_self, or_self, if_true, if_false, reduceIte, not_true_eq_false, not_false_eq_true, Int.reduceEq, Int.reduceNe, Int.reduceLT, Int.reduceLE, Int.reduceAdd, Int.reduceSub, Int.reduceMul, Int.reduceNeg, Nat.reduceAdd, Nat.reduceLeDiff, Nat.reduceEqDiff, ne_eq, List.length_cons, List.length_nil, Nat.reduceSub, ite10_0, ite10_1, ite10_01, Classical.not_not, f, g, hst, w1, w2] <;> clear f g w1 w2
  exact hQ
theorem q_lastTen (hI : Inq V) (hH : Vw V H) {n : Nat} (hn : n ≤ 300) : CC d RA_lastTen [va 4, vi n] H Q = Q (vi ((V 71 47 + n) / 10)) H := by
  refine CC_dt fun Q hQ => ?_
  have ht := hI.crew.stroke
  have hst := hI.cc.stroke
  have w1 : w32 (V 71 47 + n) = V 71 47 + n := w32_id (by omega) (by omega)
  have w2 : w32 ((V 71 47 + n).tdiv 10) = (V 71 47 + n) / 10 := by rw [tdiv_nn (by omega), w32_id (by omega) (by omega)]
  have f := hH.f hI.ptr; have g := pl_f hH hI.pp hI.ptr; simp only [en_RA_lastTen, e_RA_lastTen_0, k_RA_lastTen_0, rr, sh, Nat.reduceLT, Nat.reduceMul, Int.reduceToNat, Int.reduceGT, Int.reduceGE, Int.reduceNe, true_and, and_true, true_or, or_true, false_or, or_false, and_self, or_self, if_true, if_false, reduceIte, not_true_eq_false, not_false_eq_true, Int.reduceEq, Int.reduceNe, Int.reduceLT, Int.reduceLE, Int.reduceAdd, Int.reduceSub, Int.reduceMul, Int.reduceNeg, Nat.reduceAdd, Nat.reduceLeDiff, Nat.reduceEqDiff, ne_eq, List.length_cons, List.length_nil, Nat.reduceSub, ite10_0, ite10_1, ite10_01, Classical.not_not, f, g, hst, w1, w2] <;> clear f g w1 w2
  exact hQ
set_option maxRecDepth 20000 in
theorem q_raGreatest (hI : Inq V) (hH : Vw V H) {n : Nat} (hn : 1 ≤ n) (hn2 : n ≤ 300) : CC (d + 4) RA_greatest [va 4, vi n] H Q = Q (vl (grS V n (sdV V))) H := by
  refine CC_dt fun Q hQ => ?_
  have ht := hI.crew.stroke
  rw [← gr_ten hn ht.1] at hQ
  have f := hH.f hI.ptr; have g := pl_f hH hI.pp hI.ptr; simp only [en_RA_greatest, e_RA_greatest_0, k_RA_greatest_0, rr, sh, Nat.reduceLT, Nat.reduceMul, Int.reduceToNat, Int.reduceGT, Int.reduceGE, Int.reduceNe, true_and, and_true, true_or, or_true, false_or, or_false, and_self, or_self, if_true, if_false, reduceIte, not_true_eq_false, not_false_eq_true, Int.reduceEq, Int.reduceNe, Int.reduceLT, Int.reduceLE, Int.reduceAdd, Int.reduceSub, Int.reduceMul, Int.reduceNeg, Nat.reduceAdd, Nat.reduceLeDiff, Nat.reduceEqDiff, ne_eq, List.length_cons, List.length_nil, Nat.reduceSub, ite10_0, ite10_1, ite10_01, Classical.not_not, f, g, q_firstTen hI hH] <;> clear f g
  repeat (refine And.intro (by omega) ?_)
  have hf : 0 ≤ ftn V ∧ ftn V ≤ 1000 := by unfold ftn; omega
  have hl : ftn V + ntn V n = (V 71 47 + n) / 10 + 1 := by unfold ftn ntn; omega
  refine R_cg (up_nat (P := fun k => R (d + 4) RA_greatest (blk RA_greatest 1) [va 4, vi n, vl (mxI (fun t => swA V (sdV V) (t * 10)) (ftn V) k), vu, vi (ftn V + k)] [] H Q) ?_ ?_ 0 (Nat.zero_le (ntn V n))) (by rw [show ftn V + ((0 : Nat) : Int) = ftn V by omega]; rfl) rfl
  · have c1 : (V 71 47 + n) / 10 < ftn V + ntn V n := by omega
    rw [e_RA_greatest_1]
    have f := hH.f hI.ptr; have g := pl_f hH hI.pp hI.ptr; simp only [k_RA_greatest_1, e_RA_greatest_2, k_RA_greatest_2, rr, sh, Nat.reduceLT, Nat.reduceMul, Int.reduceToNat, Int.reduceGT, Int.reduceGE, Int.reduceNe, true_and, and_true, true_or, or_true, false_or, or_false, and_self, or_self, if_true, if_false, reduceIte, not_true_eq_false, not_false_eq_true, Int.reduceEq, Int.reduceNe, Int.reduceLT, Int.reduceLE, Int.reduceAdd, Int.reduceSub, Int.reduceMul, Int.reduceNeg, Nat.reduceAdd, Nat.reduceLeDiff, Nat.reduceEqDiff, ne_eq, List.length_cons, List.length_nil, Nat.reduceSub, ite10_0, ite10_1, ite10_01, Classical.not_not, f, g, q_lastTen hI hH hn2, c1] <;> clear f g
    exact hQ
  · intro k hk ih
    have c1 : ¬ (V 71 47 + n) / 10 < ftn V + k := by omega
    have w1 : w32 (ftn V + k + 1) = ftn V + ((k + 1 : Nat) : Int) := by rw [w32_id (by omega) (by omega)]; omega
    have w2 : w32 ((ftn V + k) * 10) = (ftn V + k) * 10 := w32_id (by omega) (by omega)
    have i1 : 0 ≤ (ftn V + k) * 10 := by omega
    have i2 : (ftn V + k) * 10 ≤ 100000 := by omega
    have q1 : ∀ {Q : AV → Hp → Prop}, CC (d + 3) CW_swingAt [va 4, vi 1, vi ((ftn V + k) * 10)] H Q = Q (vl (w64 (sww V 1 (sdV V) ((ftn V + k) * 10)))) H := q_swingAt hI hH (q := 1) (by omega) i1 i2
    rw [e_RA_greatest_1]
    have f := hH.f hI.ptr; have g := pl_f hH hI.pp hI.ptr; simp only [k_RA_greatest_1, rr, sh, Nat.reduceLT, Nat.reduceMul, Int.reduceToNat, Int.reduceGT, Int.reduceGE, Int.reduceNe, true_and, and_true, true_or, or_true, false_or, or_false, and_self, or_self, if_true, if_false, reduceIte, not_true_eq_false, not_false_eq_true, Int.reduceEq, Int.reduceNe, Int.reduceLT, Int.reduceLE, Int.reduceAdd, Int.reduceSub, Int.reduceMul, Int.reduceNeg, Nat.reduceAdd, Nat.reduceLeDiff, Nat.reduceEqDiff, ne_eq, List.length_cons, List.length_nil, Nat.reduceSub, ite10_0, ite10_1, ite10_01, Classical.not_not, f, g, q_lastTen hI hH hn2, c1, q1, q_absL, q_maxL, w1, w2] <;> clear f g w1 w2
    repeat (refine And.intro (by omega) ?_)
    exact ih
set_option maxRecDepth 20000 in
theorem q_moGreatest (hM : Inm V) (hH : Vw V H) {n b : Nat} (hb : b < 4096) (hn2 : n ≤ 300) {lo : Int} (h0 : 0 ≤ lo) (h1 : lo ≤ 10400) : CC (d + 3) MO_greatest [va 71, vi b, vi lo, vi (lo + n - 1)] H Q = Q (vl (mxI (swA V b) lo n)) H := by
  refine CC_dt fun Q hQ => ?_
  have f := hH.f hM.ptr; simp only [en_MO_greatest, e_MO_greatest_0, k_MO_greatest_0, rr, sh, Nat.reduceLT, Nat.reduceMul, Int.reduceToNat, Int.reduceGT, Int.reduceGE, Int.reduceNe, true_and, and_true, true_or, or_true, false_or, or_false, and_self, or_self, if_true, if_false, reduceIte, not_true_eq_false, not_false_eq_true, Int.reduceEq, Int.reduceNe, Int.reduceLT, Int.reduceLE, Int.reduceAdd, Int.reduceSub, Int.reduceMul, Int.reduceNeg, Nat.reduceAdd, Nat.reduceLeDiff, Nat.reduceEqDiff, ne_eq, List.length_cons, List.length_nil, Nat.reduceSub, ite10_0, ite10_1, ite10_01, Classical.not_not, f] <;> clear f
  repeat (refine And.intro (by omega) ?_)
  refine R_cg (up_nat (P := fun k => R (d + 3) MO_greatest (blk MO_greatest 1) [va 71, vi b, vi lo, vi (lo + n - 1), vl (mxI (swA V b) lo k), vu, vi (lo + k)] [] H Q) ?_ ?_ 0 (Nat.zero_le n)) (by rw [show lo + ((0 : Nat) : Int) = lo by omega]; rfl) rfl
  · have c1 : lo + n - 1 < lo + (n : Int) := by omega
    rw [e_MO_greatest_1]
    have f := hH.f hM.ptr; simp only [k_MO_greatest_1, e_MO_greatest_2, k_MO_greatest_2, rr, sh, Nat.reduceLT, Nat.reduceMul, Int.reduceToNat, Int.reduceGT, Int.reduceGE, Int.reduceNe, true_and, and_true, true_or, or_true, false_or, or_false, and_self, or_self, if_true, if_false, reduceIte, not_true_eq_false, not_false_eq_true, Int.reduceEq, Int.reduceNe, Int.reduceLT, Int.reduceLE, Int.reduceAdd, Int.reduceSub, Int.reduceMul, Int.reduceNeg, Nat.reduceAdd, Nat.reduceLeDiff, Nat.reduceEqDiff, ne_eq, List.length_cons, List.length_nil, Nat.reduceSub, ite10_0, ite10_1, ite10_01, Classical.not_not, f, c1] <;> clear f
    exact hQ
  · intro k hk ih
    have c1 : ¬ lo + n - 1 < lo + (k : Int) := by omega
    have w1 : w32 (lo + k + 1) = lo + ((k + 1 : Nat) : Int) := by rw [w32_id (by omega) (by omega)]; omega
    have i1 : 0 ≤ lo + (k : Int) := by omega
    have i2 : lo + (k : Int) ≤ 100000 := by omega
    have q1 : ∀ {Q : AV → Hp → Prop}, CC (d + 2) MO_swingBy [va 71, vi 1, vi b, vi (lo + k)] H Q = Q (vl (w64 (sww V 1 b (lo + k)))) H := q_swingBy hM hH (q := 1) (by omega) hb i1 i2
    rw [e_MO_greatest_1]
    have f := hH.f hM.ptr; simp only [k_MO_greatest_1, rr, sh, Nat.reduceLT, Nat.reduceMul, Int.reduceToNat, Int.reduceGT, Int.reduceGE, Int.reduceNe, true_and, and_true, true_or, or_true, false_or, or_false, and_self, or_self, if_true, if_false, reduceIte, not_true_eq_false, not_false_eq_true, Int.reduceEq, Int.reduceNe, Int.reduceLT, Int.reduceLE, Int.reduceAdd, Int.reduceSub, Int.reduceMul, Int.reduceNeg, Nat.reduceAdd, Nat.reduceLeDiff, Nat.reduceEqDiff, ne_eq, List.length_cons, List.length_nil, Nat.reduceSub, ite10_0, ite10_1, ite10_01, Classical.not_not, f, c1, q1, q_size, q_greater, w1] <;> clear f w1
    repeat (refine And.intro (by omega) ?_)
    exact ih
set_option maxRecDepth 20000 in
theorem q_raceM (hM : Inm V) (hH : Vw V H) {n : Int} : CC (d + 4) MO_race [va 71, vi n] H Q = Q (vl (raceS V n)) H := by
  refine CC_dt fun Q hQ => ?_
  have ht := hM.crew.stroke
  have hs := hM.crew.sides
  have hb := sdV_lt hM
  unfold raceS at hQ
  by_cases h : 1 ≤ n ∧ n ≤ 300
  · rw [if_pos h] at hQ
    obtain ⟨k, rfl⟩ := Int.eq_ofNat_of_zero_le (show 0 ≤ n by omega)
    have w1 : w32 (V 71 47 + 1) = V 71 47 + 1 := w32_id (by omega) (by omega)
    have w2 : w32 (V 71 47 + k) = V 71 47 + 1 + k - 1 := by rw [w32_id (by omega) (by omega)]; omega
    have e1 := hs.1
    have i1 : 0 ≤ V 71 47 + 1 := by omega
    have i2 : V 71 47 + 1 ≤ 10400 := by omega
    have i3 : k ≤ 300 := by omega
    have f := hH.f hM.ptr; simp only [en_MO_race, e_MO_race_0, k_MO_race_0, e_MO_race_1, k_MO_race_1, e_MO_race_2, k_MO_race_2, rr, sh, Nat.reduceLT, Nat.reduceMul, Int.reduceToNat, Int.reduceGT, Int.reduceGE, Int.reduceNe, true_and, and_true, true_or, or_true, false_or, or_false, and_self, or_self, if_true, if_false, reduceIte, not_true_eq_false, not_false_eq_true, Int.reduceEq, Int.reduceNe, Int.reduceLT, Int.reduceLE, Int.reduceAdd, Int.reduceSub, Int.reduceMul, Int.reduceNeg, Nat.reduceAdd, Nat.reduceLeDiff, Nat.reduceEqDiff, ne_eq, List.length_cons, List.length_nil, Nat.reduceSub, ite10_0, ite10_1, ite10_01, Classical.not_not, f, q_isIn, h, e1, w1, w2, q_moGreatest hM hH hb i3 i1 i2] <;> clear f e1 w1 w2
    exact hQ
  · rw [if_neg h] at hQ
    have f := hH.f hM.ptr; simp only [en_MO_race, e_MO_race_0, k_MO_race_0, e_MO_race_1, k_MO_race_1, e_MO_race_2, k_MO_race_2, rr, sh, Nat.reduceLT, Nat.reduceMul, Int.reduceToNat, Int.reduceGT, Int.reduceGE, Int.reduceNe, true_and, and_true, true_or, or_true, false_or, or_false, and_self, or_self, if_true, if_false, reduceIte, not_true_eq_false, not_false_eq_true, Int.reduceEq, Int.reduceNe, Int.reduceLT, Int.reduceLE, Int.reduceAdd, Int.reduceSub, Int.reduceMul, Int.reduceNeg, Nat.reduceAdd, Nat.reduceLeDiff, Nat.reduceEqDiff, ne_eq, List.length_cons, List.length_nil, Nat.reduceSub, ite10_0, ite10_1, ite10_01, Classical.not_not, f, q_isIn, h] <;> clear f
    exact hQ
set_option maxRecDepth 20000 in
theorem q_raceC (hI : Inq V) (hH : Vw V H) {n : Int} : CC (d + 5) EO_race [va 1, vi n] H Q = Q (vl (raceS V n)) H := by
  refine CC_dt fun Q hQ => ?_
  unfold raceS at hQ
  by_cases h : 1 ≤ n ∧ n ≤ 300
  · rw [if_pos h] at hQ
    obtain ⟨k, rfl⟩ := Int.eq_ofNat_of_zero_le (show 0 ≤ n by omega)
    have c1 : ¬ (k : Int) < 1 := by omega
    have c2 : (k : Int) ≤ 300 := by omega
    have i1 : 1 ≤ k := by omega
    have i2 : k ≤ 300 := by omega
    have f := hH.f hI.ptr; have g := pl_f hH hI.pp hI.ptr; simp only [en_EO_race, e_EO_race_0, k_EO_race_0, e_EO_race_1, k_EO_race_1, e_EO_race_2, k_EO_race_2, e_EO_race_3, k_EO_race_3, rr, sh, Nat.reduceLT, Nat.reduceMul, Int.reduceToNat, Int.reduceGT, Int.reduceGE, Int.reduceNe, true_and, and_true, true_or, or_true, false_or, or_false, and_self, or_self, if_true, if_false, reduceIte, not_true_eq_false, not_false_eq_true, Int.reduceEq, Int.reduceNe, Int.reduceLT, Int.reduceLE, Int.reduceAdd, Int.reduceSub, Int.reduceMul, Int.reduceNeg, Nat.reduceAdd, Nat.reduceLeDiff, Nat.reduceEqDiff, ne_eq, List.length_cons, List.length_nil, Nat.reduceSub, ite10_0, ite10_1, ite10_01, Classical.not_not, f, g, c1, c2, q_raGreatest hI hH i1 i2] <;> clear f g
    exact hQ
  · rw [if_neg h] at hQ
    by_cases c1 : n < 1
    · have f := hH.f hI.ptr; have g := pl_f hH hI.pp hI.ptr; simp only [en_EO_race, e_EO_race_0, k_EO_race_0, e_EO_race_1, k_EO_race_1, e_EO_race_2, k_EO_race_2, e_EO_race_3, k_EO_race_3, rr, sh, Nat.reduceLT, Nat.reduceMul, Int.reduceToNat, Int.reduceGT, Int.reduceGE, Int.reduceNe, true_and, and_true, true_or, or_true, false_or, or_false, and_self, or_self, if_true, if_false, reduceIte, not_true_eq_false, not_false_eq_true, Int.reduceEq, Int.reduceNe, Int.reduceLT, Int.reduceLE, Int.reduceAdd, Int.reduceSub, Int.reduceMul, Int.reduceNeg, Nat.reduceAdd, Nat.reduceLeDiff, Nat.reduceEqDiff, ne_eq, List.length_cons, List.length_nil, Nat.reduceSub, ite10_0, ite10_1, ite10_01, Classical.not_not, f, g, c1] <;> clear f g
      exact hQ
    · have c2 : ¬ n ≤ 300 := by omega
      have f := hH.f hI.ptr; have g := pl_f hH hI.pp hI.ptr; simp only [en_EO_race, e_EO_race_0, k_EO_race_0, e_EO_race_1, k_EO_race_1, e_EO_race_2, k_EO_race_2, e_EO_race_3, k_EO_race_3, rr, sh, Nat.reduceLT, Nat.reduceMul, Int.reduceToNat, Int.reduceGT, Int.reduceGE, Int.reduceNe, true_and, and_true, true_or, or_true, false_or, or_false, and_self, or_self, if_true, if_false, reduceIte, not_true_eq_false, not_false_eq_true, Int.reduceEq, Int.reduceNe, Int.reduceLT, Int.reduceLE, Int.reduceAdd, Int.reduceSub, Int.reduceMul, Int.reduceNeg, Nat.reduceAdd, Nat.reduceLeDiff, Nat.reduceEqDiff, ne_eq, List.length_cons, List.length_nil, Nat.reduceSub, ite10_0, ite10_1, ite10_01, Classical.not_not, f, g, c1, c2] <;> clear f g
      exact hQ
end RA
