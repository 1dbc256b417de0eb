/-! strengths: the class's search -/
theorem gB_num {V : Hp} {gp : Nat → Int} {k : Nat} (h : gB V gp k) (hk : k ≤ 7) : ∀ r, r < nU V → -90000000000 ≤ gp r ∧ gp r ≤ 90000000000 := fun r hr => by
  have := h r hr
  have h2 : 9 * (k : Int) * bX ≤ 9 * 7 * bX := by
    have : (k : Int) ≤ 7 := by omega
    unfold bX
    omega
  have h3 : (100000 : Int) + 9 * 7 * bX ≤ 90000000000 := by decide
  generalize 9 * (k : Int) * bX = y at *
  omega
theorem stG2_two {V : Hp} {gp : Nat → Int} {k : Nat} {x y : Int} : stG2 V (stG2 V gp k x) k y = stG2 V gp k (x + y) := by
  funext r
  unfold stG2
  rw [Int.mul_add]; omega
theorem stG2_0 {V : Hp} {gp : Nat → Int} {k : Nat} : stG2 V gp k 0 = gp := by
  funext r
  unfold stG2
  rw [Int.mul_zero, Int.add_zero]
/-- noted so far: the strengths up to x of this rower -/
def NpL (V : Hp) (j k : Nat) (gp : Nat → Int) (x q : Nat) (L L' : Int) : Prop := ∀ v : Int, L' ≤ v ↔ L ≤ v ∨ ∃ y : Nat, y < x ∧ ∃ t, SolG V j (k + 1) (stG2 V gp k ((y : Int) + 1)) t ∧ (if q = k then (y : Int) + 1 else t q) ≤ v
def NpM (V : Hp) (j k : Nat) (gp : Nat → Int) (x q : Nat) (L L' : Int) : Prop := ∀ v : Int, v ≤ L' ↔ v ≤ L ∨ ∃ y : Nat, y < x ∧ ∃ t, SolG V j (k + 1) (stG2 V gp k ((y : Int) + 1)) t ∧ v ≤ (if q = k then (y : Int) + 1 else t q)
theorem NpL_end {V : Hp} {j k q : Nat} {gp : Nat → Int} {L L' : Int} (hq : k ≤ q ∧ q < k + (j + 1)) (h : NpL V j k gp 9 q L L') : NoL V (j + 1) k gp q L L' := fun v => by
  rw [h v, SolG_ex (fun t => t q ≤ v) (fun t t' e z => by rw [← e q hq.1 hq.2]; exact z)]
theorem NpM_end {V : Hp} {j k q : Nat} {gp : Nat → Int} {L L' : Int} (hq : k ≤ q ∧ q < k + (j + 1)) (h : NpM V j k gp 9 q L L') : NoM V (j + 1) k gp q L L' := fun v => by
  rw [h v, SolG_ex (fun t => v ≤ t q) (fun t t' e z => by rw [← e q hq.1 hq.2]; exact z)]
theorem NpL_s {V : Hp} {j k x q : Nat} {gp : Nat → Int} {L M L' : Int} (h : NpL V j k gp x q L M) (h2 : ∀ v : Int, L' ≤ v ↔ M ≤ v ∨ ∃ t, SolG V j (k + 1) (stG2 V gp k ((x : Int) + 1)) t ∧ (if q = k then (x : Int) + 1 else t q) ≤ v) : NpL V j k gp (x + 1) q L L' := fun v => by
  rw [h2 v, h v]
  constructor
  · rintro ((z | ⟨y, y1, y2⟩) | z)
    · exact Or.inl z
    · exact Or.inr ⟨y, Nat.lt_succ_of_lt y1, y2⟩
    · exact Or.inr ⟨x, Nat.lt_succ_self x, z⟩
  · rintro (z | ⟨y, y1, y2⟩)
    · exact Or.inl (Or.inl z)
    · by_cases e : y = x
      · subst e; exact Or.inr y2
      · exact Or.inl (Or.inr ⟨y, Nat.lt_of_le_of_ne (Nat.le_of_lt_succ y1) e, y2⟩)
theorem NpM_s {V : Hp} {j k x q : Nat} {gp : Nat → Int} {L M L' : Int} (h : NpM V j k gp x q L M) (h2 : ∀ v : Int, v ≤ L' ↔ v ≤ M ∨ ∃ t, SolG V j (k + 1) (stG2 V gp k ((x : Int) + 1)) t ∧ v ≤ (if q = k then (x : Int) + 1 else t q)) : NpM V j k gp (x + 1) q L L' := fun v => by
  rw [h2 v, h v]
  constructor
  · rintro ((z | ⟨y, y1, y2⟩) | z)
    · exact Or.inl z
    · exact Or.inr ⟨y, Nat.lt_succ_of_lt y1, y2⟩
    · exact Or.inr ⟨x, Nat.lt_succ_self x, z⟩
  · rintro (z | ⟨y, y1, y2⟩)
    · exact Or.inl (Or.inl z)
    · by_cases e : y = x
      · subst e; exact Or.inr y2
      · exact Or.inl (Or.inr ⟨y, Nat.lt_of_le_of_ne (Nat.le_of_lt_succ y1) e, y2⟩)
section TS
variable {V : Hp}
set_option maxRecDepth 20000 in
theorem c_rowsFrom (hI : Inq V) (hnR : nR V ≤ 6) : ∀ (j : Nat) {d k : Nat} {gp : Nat → Int} {H : Hp} {Q : AV → Hp → Prop}, k + (j + 1) = nR V → TrS V H gp → gB V gp k → (∀ H', TrS V H' gp → (∀ q : Nat, q < k → H' 64 q = H 64 q ∧ H' 65 q = H 65 q) → (∀ q : Nat, k ≤ q → q < nR V → NoL V (j + 1) k gp q (H 64 q) (H' 64 q) ∧ NoM V (j + 1) k gp q (H 65 q) (H' 65 q)) → Q (vi (cntG V (j + 1) k gp)) H') → CC (d + j + 3) TR_rowsFrom [va 58, va (V 4 0), vi k] H Q := by
  intro j
  induction j with
  | zero =>
    intro d k gp H Q hk hT hB hQ
    have hkn : k < nR V := by omega
    have hJ : nR V - k = 1 := by omega
    have hn12 := hI.boat.r
    have z1 := shp hI
    have hBn := gB_num hB (by omega)
    have wr : w32 ((nR V : Int) - 1) = k := by rw [w32_id (by clear z1 hBn hQ; omega) (by clear z1 hBn hQ; omega)]; clear z1 hBn hQ; omega
    simp only [en_TR_rowsFrom, e_TR_rowsFrom_0, k_TR_rowsFrom_0, rr, sh, Nat.reduceLT, Nat.reduceMul, Int.reduceToNat, Int.reduceGT, Int.reduceGE, Int.reduceNe, true_and, and_true, true_or, or_true, false_or, or_false, and_self, or_self, if_true, if_false, reduceIte, not_true_eq_false, not_false_eq_true, Int.reduceEq, Int.reduceNe, Int.reduceLT, Int.reduceLE, Int.reduceAdd, Int.reduceSub, Int.reduceMul, Int.reduceNeg, Nat.reduceAdd, Nat.reduceLeDiff, Nat.reduceEqDiff, ne_eq, List.length_cons, List.length_nil, Nat.reduceSub]
    refine c_verdict (d := d + 2) hI hT hnR (Nat.le_of_lt hkn) hBn (fun q => ?_) (fun q => ?_) (fun q => ?_)
    · obtain ⟨r, hr, q⟩ := q
      unfold nevT at q
      rw [hJ] at q
      have hno := sol_never (V := V) hr q
      simp only [rr, sh, Nat.reduceLT, Nat.reduceMul, Int.reduceToNat, Int.reduceGT, Int.reduceGE, Int.reduceNe, true_and, and_true, true_or, or_true, false_or, or_false, and_self, or_self, if_true, if_false, reduceIte, not_true_eq_false, not_false_eq_true, Int.reduceEq, Int.reduceNe, Int.reduceLT, Int.reduceLE, Int.reduceAdd, Int.reduceSub, Int.reduceMul, Int.reduceNeg, Nat.reduceAdd, Nat.reduceLeDiff, Nat.reduceEqDiff, ne_eq, List.length_cons, List.length_nil, Nat.reduceSub]
      have := hQ H hT (fun _ _ => ⟨rfl, rfl⟩) (fun q _ _ => ⟨NoL_none hno, NoM_none hno⟩)
      rw [cnt_none hno] at this
      exact this
    · unfold alwT at q
      rw [hJ] at q
      simp only [e_TR_rowsFrom_1, k_TR_rowsFrom_1, rr, sh, Nat.reduceLT, Nat.reduceMul, Int.reduceToNat, Int.reduceGT, Int.reduceGE, Int.reduceNe, true_and, and_true, true_or, or_true, false_or, or_false, and_self, or_self, if_true, if_false, reduceIte, not_true_eq_false, not_false_eq_true, Int.reduceEq, Int.reduceNe, Int.reduceLT, Int.reduceLE, Int.reduceAdd, Int.reduceSub, Int.reduceMul, Int.reduceNeg, Nat.reduceAdd, Nat.reduceLeDiff, Nat.reduceEqDiff, ne_eq, List.length_cons, List.length_nil, Nat.reduceSub]
      refine c_allRows (d := d) hI hT hnR (Nat.le_of_lt hkn) fun H' g1 g2 g3 => ?_
      simp only [rr, sh, Nat.reduceLT, Nat.reduceMul, Int.reduceToNat, Int.reduceGT, Int.reduceGE, Int.reduceNe, true_and, and_true, true_or, or_true, false_or, or_false, and_self, or_self, if_true, if_false, reduceIte, not_true_eq_false, not_false_eq_true, Int.reduceEq, Int.reduceNe, Int.reduceLT, Int.reduceLE, Int.reduceAdd, Int.reduceSub, Int.reduceMul, Int.reduceNeg, Nat.reduceAdd, Nat.reduceLeDiff, Nat.reduceEqDiff, ne_eq, List.length_cons, List.length_nil, Nat.reduceSub]
      have := hQ H' g1 g2 (fun p p1 p2 => by
        obtain ⟨e1, e2⟩ := g3 p p1 p2
        obtain rfl : p = k := by clear z1 hBn hQ; omega
        rw [e1, e2]
        have a1 := NoL_all (V := V) (L := H 64 p) (i := 0) (show 0 < 1 by decide) q
        have a2 := NoM_all (V := V) (G := H 65 p) (i := 0) (show 0 < 1 by decide) q
        rw [Nat.add_zero] at a1 a2
        exact ⟨a1, a2⟩)
      rw [cnt_always q] at this
      rw [hJ]
      exact this
    · have hlast : ∀ r, r < nU V → aTr V r k = 0 → -V 99 1 ≤ gp r ∧ gp r ≤ V 99 1 := fun r hr ha => by
        have := q r hr
        unfold nevT at this
        rw [hJ] at this
        have e1 : loB V r k 1 = 0 := by
          show 0 + min (aTr V r (k + 0) * 1) (aTr V r (k + 0) * 9) = 0
          rw [Nat.add_zero, ha]; rfl
        have e2 : hiB V r k 1 = 0 := by
          show 0 + max (aTr V r (k + 0) * 1) (aTr V r (k + 0) * 9) = 0
          rw [Nat.add_zero, ha]; rfl
        rw [e1, e2] at this
        clear z1 hBn hQ
        omega
      have f := trF hI hT.1
      have ck : ¬ (k : Int) < k := Int.lt_irrefl _
      simp only [e_TR_rowsFrom_1, k_TR_rowsFrom_1, e_TR_rowsFrom_2, k_TR_rowsFrom_2, rr, sh, Nat.reduceLT, Nat.reduceMul, Int.reduceToNat, Int.reduceGT, Int.reduceGE, Int.reduceNe, true_and, and_true, true_or, or_true, false_or, or_false, and_self, or_self, if_true, if_false, reduceIte, not_true_eq_false, not_false_eq_true, Int.reduceEq, Int.reduceNe, Int.reduceLT, Int.reduceLE, Int.reduceAdd, Int.reduceSub, Int.reduceMul, Int.reduceNeg, Nat.reduceAdd, Nat.reduceLeDiff, Nat.reduceEqDiff, ne_eq, List.length_cons, List.length_nil, Nat.reduceSub, z1, f.2.2.2.2.2.2.1, wr, ck]
      refine c_rowsLast (d := d) hI hT hnR hk hBn hlast fun H' g1 g2 g3 g4 => ?_
      simp only [rr, sh, Nat.reduceLT, Nat.reduceMul, Int.reduceToNat, Int.reduceGT, Int.reduceGE, Int.reduceNe, true_and, and_true, true_or, or_true, false_or, or_false, and_self, or_self, if_true, if_false, reduceIte, not_true_eq_false, not_false_eq_true, Int.reduceEq, Int.reduceNe, Int.reduceLT, Int.reduceLE, Int.reduceAdd, Int.reduceSub, Int.reduceMul, Int.reduceNeg, Nat.reduceAdd, Nat.reduceLeDiff, Nat.reduceEqDiff, ne_eq, List.length_cons, List.length_nil, Nat.reduceSub]
      refine hQ H' g1 g2 fun p p1 p2 => ?_
      obtain rfl : p = k := by clear z1 hBn hQ; omega
      exact ⟨g3, g4⟩
  | succ j ihj =>
    intro d k gp H Q hk hT hB hQ
    have hkn : k < nR V := by omega
    have k6 : k < 6 := by omega
    have hJ : nR V - k = j + 2 := by omega
    have hn12 := hI.boat.r
    have z1 := shp hI
    have hBn := gB_num hB (by omega)
    have wr : w32 ((nR V : Int) - 1) = (nR V : Int) - 1 := w32_id (by clear z1 hBn hQ; omega) (by clear z1 hBn hQ; omega)
    have ck : (k : Int) < (nR V : Int) - 1 := by clear z1 hBn hQ wr; omega
    have kk := w32_s (n := k) (by clear z1 hBn hQ wr; omega)
    simp only [en_TR_rowsFrom, e_TR_rowsFrom_0, k_TR_rowsFrom_0, rr, sh, Nat.reduceLT, Nat.reduceMul, Int.reduceToNat, Int.reduceGT, Int.reduceGE, Int.reduceNe, true_and, and_true, true_or, or_true, false_or, or_false, and_self, or_self, if_true, if_false, reduceIte, not_true_eq_false, not_false_eq_true, Int.reduceEq, Int.reduceNe, Int.reduceLT, Int.reduceLE, Int.reduceAdd, Int.reduceSub, Int.reduceMul, Int.reduceNeg, Nat.reduceAdd, Nat.reduceLeDiff, Nat.reduceEqDiff, ne_eq, List.length_cons, List.length_nil, Nat.reduceSub]
    refine c_verdict (d := d + (j + 1) + 2) hI hT hnR (Nat.le_of_lt hkn) hBn (fun q => ?_) (fun q => ?_) (fun _ => ?_)
    · obtain ⟨r, hr, q⟩ := q
      unfold nevT at q
      rw [hJ] at q
      have hno := sol_never (V := V) hr q
      simp only [rr, sh, Nat.reduceLT, Nat.reduceMul, Int.reduceToNat, Int.reduceGT, Int.reduceGE, Int.reduceNe, true_and, and_true, true_or, or_true, false_or, or_false, and_self, or_self, if_true, if_false, reduceIte, not_true_eq_false, not_false_eq_true, Int.reduceEq, Int.reduceNe, Int.reduceLT, Int.reduceLE, Int.reduceAdd, Int.reduceSub, Int.reduceMul, Int.reduceNeg, Nat.reduceAdd, Nat.reduceLeDiff, Nat.reduceEqDiff, ne_eq, List.length_cons, List.length_nil, Nat.reduceSub]
      have := hQ H hT (fun _ _ => ⟨rfl, rfl⟩) (fun q _ _ => ⟨NoL_none hno, NoM_none hno⟩)
      rw [cnt_none hno] at this
      exact this
    · unfold alwT at q
      rw [hJ] at q
      simp only [e_TR_rowsFrom_1, k_TR_rowsFrom_1, rr, sh, Nat.reduceLT, Nat.reduceMul, Int.reduceToNat, Int.reduceGT, Int.reduceGE, Int.reduceNe, true_and, and_true, true_or, or_true, false_or, or_false, and_self, or_self, if_true, if_false, reduceIte, not_true_eq_false, not_false_eq_true, Int.reduceEq, Int.reduceNe, Int.reduceLT, Int.reduceLE, Int.reduceAdd, Int.reduceSub, Int.reduceMul, Int.reduceNeg, Nat.reduceAdd, Nat.reduceLeDiff, Nat.reduceEqDiff, ne_eq, List.length_cons, List.length_nil, Nat.reduceSub]
      refine c_allRows (d := d + (j + 1)) hI hT hnR (Nat.le_of_lt hkn) fun H' g1 g2 g3 => ?_
      simp only [rr, sh, Nat.reduceLT, Nat.reduceMul, Int.reduceToNat, Int.reduceGT, Int.reduceGE, Int.reduceNe, true_and, and_true, true_or, or_true, false_or, or_false, and_self, or_self, if_true, if_false, reduceIte, not_true_eq_false, not_false_eq_true, Int.reduceEq, Int.reduceNe, Int.reduceLT, Int.reduceLE, Int.reduceAdd, Int.reduceSub, Int.reduceMul, Int.reduceNeg, Nat.reduceAdd, Nat.reduceLeDiff, Nat.reduceEqDiff, ne_eq, List.length_cons, List.length_nil, Nat.reduceSub]
      have := hQ H' g1 g2 (fun p p1 p2 => by
        obtain ⟨e1, e2⟩ := g3 p p1 p2
        obtain ⟨i, rfl⟩ : ∃ i, p = k + i := ⟨p - k, by clear z1 hBn hQ wr ck kk; omega⟩
        rw [e1, e2]
        have hi : i < j + 2 := by clear z1 hBn hQ wr ck kk; omega
        exact ⟨NoL_all hi q, NoM_all hi q⟩)
      rw [cnt_always q] at this
      rw [hJ]
      exact this
    · have f := trF hI hT.1
      have ck' : (k : Int) < (nR V : Int) - 1 := ck
      simp only [e_TR_rowsFrom_1, k_TR_rowsFrom_1, e_TR_rowsFrom_2, k_TR_rowsFrom_2, e_TR_rowsFrom_3, k_TR_rowsFrom_3, rr, sh, Nat.reduceLT, Nat.reduceMul, Int.reduceToNat, Int.reduceGT, Int.reduceGE, Int.reduceNe, true_and, and_true, true_or, or_true, false_or, or_false, and_self, or_self, if_true, if_false, reduceIte, not_true_eq_false, not_false_eq_true, Int.reduceEq, Int.reduceNe, Int.reduceLT, Int.reduceLE, Int.reduceAdd, Int.reduceSub, Int.reduceMul, Int.reduceNeg, Nat.reduceAdd, Nat.reduceLeDiff, Nat.reduceEqDiff, ne_eq, List.length_cons, List.length_nil, Nat.reduceSub, z1, f.2.2.2.2.2.2.1, wr, ck']
      refine up_nat (P := fun x => ∀ H' (y : AV), TrS V H' (stG2 V gp k x) → (∀ q : Nat, q < k → H' 64 q = H 64 q ∧ H' 65 q = H 65 q) → (∀ q : Nat, k ≤ q → q < nR V → NpL V (j + 1) k gp x q (H 64 q) (H' 64 q) ∧ NpM V (j + 1) k gp x q (H 65 q) (H' 65 q)) → R (d + (j + 1) + 3) TR_rowsFrom (blk TR_rowsFrom 4) [va 58, va (V 4 0), vi k, vi 1, vi (sumI (fun x => cntG V (j + 1) (k + 1) (stG2 V gp k ((x : Int) + 1))) x), vi ((x : Int) + 1), y] [] H' Q) ?_ ?_ 0 (Nat.zero_le 9) H vu (by rw [show ((0 : Nat) : Int) = 0 from rfl, stG2_0]; exact hT) (fun _ _ => ⟨rfl, rfl⟩) (fun q _ _ => ⟨fun v => ⟨fun z => Or.inl z, fun z => z.elim id (fun ⟨y, y1, _⟩ => absurd y1 (Nat.not_lt_zero y))⟩, fun v => ⟨fun z => Or.inl z, fun z => z.elim id (fun ⟨y, y1, _⟩ => absurd y1 (Nat.not_lt_zero y))⟩⟩)
      · intro H' y a1 a2 a3
        have c9 : (9 : Int) < ((9 : Nat) : Int) + 1 := by decide
        have hB9 := gB_num (gB_up hI.m hB (x := ((9 : Nat) : Int)) (by decide) k) (by omega)
        rw [e_TR_rowsFrom_4]
        simp only [k_TR_rowsFrom_4, e_TR_rowsFrom_6, k_TR_rowsFrom_6, rr, sh, Nat.reduceLT, Nat.reduceMul, Int.reduceToNat, Int.reduceGT, Int.reduceGE, Int.reduceNe, true_and, and_true, true_or, or_true, false_or, or_false, and_self, or_self, if_true, if_false, reduceIte, not_true_eq_false, not_false_eq_true, Int.reduceEq, Int.reduceNe, Int.reduceLT, Int.reduceLE, Int.reduceAdd, Int.reduceSub, Int.reduceMul, Int.reduceNeg, Nat.reduceAdd, Nat.reduceLeDiff, Nat.reduceEqDiff, ne_eq, List.length_cons, List.length_nil, Nat.reduceSub, c9]
        refine c_tryMore hI a1 hnR hkn hB9 (by decide) fun H2 g1 g64 g65 => ?_
        rw [stG2_two, show ((9 : Nat) : Int) + -9 = 0 from rfl, stG2_0] at g1
        try simp only [rr, sh, Nat.reduceLT, Nat.reduceMul, Int.reduceToNat, Int.reduceGT, Int.reduceGE, Int.reduceNe, true_and, and_true, true_or, or_true, false_or, or_false, and_self, or_self, if_true, if_false, reduceIte, not_true_eq_false, not_false_eq_true, Int.reduceEq, Int.reduceNe, Int.reduceLT, Int.reduceLE, Int.reduceAdd, Int.reduceSub, Int.reduceMul, Int.reduceNeg, Nat.reduceAdd, Nat.reduceLeDiff, Nat.reduceEqDiff, ne_eq, List.length_cons, List.length_nil, Nat.reduceSub]
        refine hQ H2 g1 (fun q hq => by rw [g64, g65]; exact a2 q hq) fun q q1 q2 => ?_
        rw [g64, g65]
        have := a3 q q1 q2
        have hq : k ≤ q ∧ q < k + (j + 1 + 1) := ⟨q1, by clear z1 hBn hQ wr ck kk ck' hB9 a3 this; omega⟩
        exact ⟨NpL_end hq this.1, NpM_end hq this.2⟩
      · intro x hx ih H' y a1 a2 a3
        have c9 : ¬ (9 : Int) < (x : Int) + 1 := by clear z1 hBn hQ wr ck kk ck' ih a3; omega
        have hBx := gB_num (gB_up hI.m hB (x := (x : Int)) (by clear z1 hBn hQ wr ck kk ck' ih a3; omega) k) (by omega)
        have hB1 := gB_up hI.m hB (x := (x : Int) + 1) (by clear z1 hBn hQ wr ck kk ck' ih a3 hBx; omega) k
        have hc := cntG_rng (V := V) (j := j + 1) (k := k + 1) (gp := stG2 V gp k ((x : Int) + 1))
        have hp9 : 9 ^ (j + 1) ≤ 9 ^ 5 := Nat.pow_le_pow_right (by decide) (by omega)
        have hs1 : ∀ n : Nat, 0 ≤ sumI (fun x => cntG V (j + 1) (k + 1) (stG2 V gp k ((x : Int) + 1))) n ∧ sumI (fun x => cntG V (j + 1) (k + 1) (stG2 V gp k ((x : Int) + 1))) n ≤ n * 59049 := by
          intro n
          induction n with
          | zero => exact ⟨Int.le_refl _, Int.le_refl _⟩
          | succ n ihn =>
            have hcn := cntG_rng (V := V) (j := j + 1) (k := k + 1) (gp := stG2 V gp k ((n : Int) + 1))
            have h9 : ((9 ^ (j + 1) : Nat) : Int) ≤ 59049 := Int.ofNat_le.mpr hp9
            show 0 ≤ sumI (fun x => cntG V (j + 1) (k + 1) (stG2 V gp k ((x : Int) + 1))) n + cntG V (j + 1) (k + 1) (stG2 V gp k ((n : Int) + 1)) ∧ sumI (fun x => cntG V (j + 1) (k + 1) (stG2 V gp k ((x : Int) + 1))) n + cntG V (j + 1) (k + 1) (stG2 V gp k ((n : Int) + 1)) ≤ _
            generalize cntG V (j + 1) (k + 1) (stG2 V gp k ((n : Int) + 1)) = u at *
            generalize sumI (fun x => cntG V (j + 1) (k + 1) (stG2 V gp k ((x : Int) + 1))) n = w at *
            generalize ((9 ^ (j + 1) : Nat) : Int) = e at *
            clear z1 hBn hQ wr ck kk ck' ih a3 hBx hB1 hp9
            omega
        have hsx := hs1 (x + 1)
        have wsum : w32 (sumI (fun x => cntG V (j + 1) (k + 1) (stG2 V gp k ((x : Int) + 1))) x + cntG V (j + 1) (k + 1) (stG2 V gp k ((x : Int) + 1))) = sumI (fun x => cntG V (j + 1) (k + 1) (stG2 V gp k ((x : Int) + 1))) (x + 1) := by
          show w32 (sumI (fun x => cntG V (j + 1) (k + 1) (stG2 V gp k ((x : Int) + 1))) (x + 1)) = _
          generalize sumI (fun x => cntG V (j + 1) (k + 1) (stG2 V gp k ((x : Int) + 1))) (x + 1) = w at hsx ⊢
          exact w32_id (by clear z1 hBn hQ wr ck kk ck' ih a3 hBx hB1 hp9 hs1 hc; omega) (by clear z1 hBn hQ wr ck kk ck' ih a3 hBx hB1 hp9 hs1 hc; omega)
        have kx : w32 ((x : Int) + 1 + 1) = ((x + 1 : Nat) : Int) + 1 := by rw [w32_id (by clear z1 hBn hQ wr ck kk ck' ih a3 hBx hB1 hp9 hs1 hc hsx wsum; omega) (by clear z1 hBn hQ wr ck kk ck' ih a3 hBx hB1 hp9 hs1 hc hsx wsum; omega)]; clear z1 hBn hQ wr ck kk ck' ih a3 hBx hB1 hp9 hs1 hc hsx wsum; omega
        have hx1 : ((x + 1 : Nat) : Int) = (x : Int) + 1 := by push_cast; rfl
        rw [e_TR_rowsFrom_4]
        simp only [k_TR_rowsFrom_4, rr, sh, Nat.reduceLT, Nat.reduceMul, Int.reduceToNat, Int.reduceGT, Int.reduceGE, Int.reduceNe, true_and, and_true, true_or, or_true, false_or, or_false, and_self, or_self, if_true, if_false, reduceIte, not_true_eq_false, not_false_eq_true, Int.reduceEq, Int.reduceNe, Int.reduceLT, Int.reduceLE, Int.reduceAdd, Int.reduceSub, Int.reduceMul, Int.reduceNeg, Nat.reduceAdd, Nat.reduceLeDiff, Nat.reduceEqDiff, ne_eq, List.length_cons, List.length_nil, Nat.reduceSub, c9]
        refine c_tryMore hI a1 hnR hkn hBx (by decide) fun H2 g1 g64 g65 => ?_
        rw [stG2_two] at g1
        simp only [rr, sh, Nat.reduceLT, Nat.reduceMul, Int.reduceToNat, Int.reduceGT, Int.reduceGE, Int.reduceNe, true_and, and_true, true_or, or_true, false_or, or_false, and_self, or_self, if_true, if_false, reduceIte, not_true_eq_false, not_false_eq_true, Int.reduceEq, Int.reduceNe, Int.reduceLT, Int.reduceLE, Int.reduceAdd, Int.reduceSub, Int.reduceMul, Int.reduceNeg, Nat.reduceAdd, Nat.reduceLeDiff, Nat.reduceEqDiff, ne_eq, List.length_cons, List.length_nil, Nat.reduceSub, kk]
        refine ihj (d := d) (k := k + 1) (by clear z1 hBn hQ wr ck kk ck' ih a3 hBx hB1 hp9 hs1 hc hsx wsum kx; omega) g1 hB1 fun H3 b1 b2 b3 => ?_
        have old : ∀ q : Nat, q < k + 1 → H3 64 q = H' 64 q ∧ H3 65 q = H' 65 q := fun q hq => by
          rw [(b2 q hq).1, (b2 q hq).2, g64, g65]; exact ⟨rfl, rfl⟩
        have a2' : ∀ q : Nat, q < k → H3 64 q = H 64 q ∧ H3 65 q = H 65 q := fun q hq => by
          rw [(old q (Nat.lt_succ_of_lt hq)).1, (old q (Nat.lt_succ_of_lt hq)).2]; exact a2 q hq
        have new : ∀ q : Nat, k < q → q < nR V → NpL V (j + 1) k gp (x + 1) q (H 64 q) (H3 64 q) ∧ NpM V (j + 1) k gp (x + 1) q (H 65 q) (H3 65 q) := fun q q1 q2 => by
          obtain ⟨n1, n2⟩ := b3 q q1 q2
          rw [g64] at n1
          rw [g65] at n2
          have e : ¬ q = k := Nat.ne_of_gt q1
          obtain ⟨p1, p2⟩ := a3 q (Nat.le_of_lt q1) q2
          exact ⟨NpL_s p1 (fun v => by simp only [if_neg e]; exact n1 v), NpM_s p2 (fun v => by simp only [if_neg e]; exact n2 v)⟩
        by_cases hpos : 0 < cntG V (j + 1) (k + 1) (stG2 V gp k ((x : Int) + 1))
        · have cpos : ¬ cntG V (j + 1) (k + 1) (stG2 V gp k ((x : Int) + 1)) ≤ 0 := Int.not_le.mpr hpos
          obtain ⟨t0, ht0⟩ := cntG_pos.mp hpos
          simp only [e_TR_rowsFrom_5, k_TR_rowsFrom_5, rr, sh, Nat.reduceLT, Nat.reduceMul, Int.reduceToNat, Int.reduceGT, Int.reduceGE, Int.reduceNe, true_and, and_true, true_or, or_true, false_or, or_false, and_self, or_self, if_true, if_false, reduceIte, not_true_eq_false, not_false_eq_true, Int.reduceEq, Int.reduceNe, Int.reduceLT, Int.reduceLE, Int.reduceAdd, Int.reduceSub, Int.reduceMul, Int.reduceNeg, Nat.reduceAdd, Nat.reduceLeDiff, Nat.reduceEqDiff, ne_eq, List.length_cons, List.length_nil, Nat.reduceSub, cpos, q_note hI b1.1 k6, wsum, kx]
          have hT2 := b1.nt (q := k) (lo := (x : Int) + 1) (hi := (x : Int) + 1)
          rw [← hx1] at hT2
          refine ih _ _ hT2 (fun q hq => ?_) (fun q q1 q2 => ?_)
          · have e : ¬ q = k := Nat.ne_of_lt hq
            rw [(ntS_at).1, (ntS_at).2, if_neg e, if_neg e]
            exact a2' q hq
          · rw [(ntS_at).1, (ntS_at).2]
            by_cases e : q = k
            · subst e
              rw [if_pos rfl, if_pos rfl, (old q (Nat.lt_succ_self q)).1, (old q (Nat.lt_succ_self q)).2]
              obtain ⟨p1, p2⟩ := a3 q q1 q2
              refine ⟨NpL_s p1 (fun v => ?_), NpM_s p2 (fun v => ?_)⟩
              · simp only [↓reduceIte]
                refine ⟨fun z => ?_, fun z => ?_⟩
                · by_cases c : H' 64 q ≤ v
                  · exact Or.inl c
                  · exact Or.inr ⟨t0, ht0, by clear z1 hBn hQ wr ck kk ck' ih a3 hBx hB1 hp9 hs1 hc hsx wsum kx p1 p2 ht0 new old a2'; omega⟩
                · rcases z with z | ⟨t, _, z⟩
                  · clear z1 hBn hQ wr ck kk ck' ih a3 hBx hB1 hp9 hs1 hc hsx wsum kx p1 p2 ht0 new old a2'; omega
                  · clear z1 hBn hQ wr ck kk ck' ih a3 hBx hB1 hp9 hs1 hc hsx wsum kx p1 p2 ht0 new old a2'; omega
              · simp only [↓reduceIte]
                refine ⟨fun z => ?_, fun z => ?_⟩
                · by_cases c : v ≤ H' 65 q
                  · exact Or.inl c
                  · exact Or.inr ⟨t0, ht0, by clear z1 hBn hQ wr ck kk ck' ih a3 hBx hB1 hp9 hs1 hc hsx wsum kx p1 p2 ht0 new old a2'; omega⟩
                · rcases z with z | ⟨t, _, z⟩
                  · clear z1 hBn hQ wr ck kk ck' ih a3 hBx hB1 hp9 hs1 hc hsx wsum kx p1 p2 ht0 new old a2'; omega
                  · clear z1 hBn hQ wr ck kk ck' ih a3 hBx hB1 hp9 hs1 hc hsx wsum kx p1 p2 ht0 new old a2'; omega
            · rw [if_neg e, if_neg e]
              exact new q (Nat.lt_of_le_of_ne q1 (fun z => e z.symm)) q2
        · have cpos : cntG V (j + 1) (k + 1) (stG2 V gp k ((x : Int) + 1)) ≤ 0 := Int.not_lt.mp hpos
          have hno : ∀ t, ¬ SolG V (j + 1) (k + 1) (stG2 V gp k ((x : Int) + 1)) t := fun t ht => hpos (cntG_pos.mpr ⟨t, ht⟩)
          simp only [e_TR_rowsFrom_5, k_TR_rowsFrom_5, rr, sh, Nat.reduceLT, Nat.reduceMul, Int.reduceToNat, Int.reduceGT, Int.reduceGE, Int.reduceNe, true_and, and_true, true_or, or_true, false_or, or_false, and_self, or_self, if_true, if_false, reduceIte, not_true_eq_false, not_false_eq_true, Int.reduceEq, Int.reduceNe, Int.reduceLT, Int.reduceLE, Int.reduceAdd, Int.reduceSub, Int.reduceMul, Int.reduceNeg, Nat.reduceAdd, Nat.reduceLeDiff, Nat.reduceEqDiff, ne_eq, List.length_cons, List.length_nil, Nat.reduceSub, cpos, wsum, kx]
          rw [← hx1] at b1
          refine ih _ _ b1 a2' (fun q q1 q2 => ?_)
          by_cases e : q = k
          · subst e
            rw [(old q (Nat.lt_succ_self q)).1, (old q (Nat.lt_succ_self q)).2]
            obtain ⟨p1, p2⟩ := a3 q q1 q2
            exact ⟨NpL_s p1 (fun v => ⟨fun z => Or.inl z, fun z => z.elim id (fun ⟨t, ht, _⟩ => absurd ht (hno t))⟩), NpM_s p2 (fun v => ⟨fun z => Or.inl z, fun z => z.elim id (fun ⟨t, ht, _⟩ => absurd ht (hno t))⟩)⟩
          · exact new q (Nat.lt_of_le_of_ne q1 (fun z => e z.symm)) q2
end TS
