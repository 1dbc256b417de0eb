/-! small acts: end, seed; fault, status, octet -/
def Inv0 (V : Hp) : Prop := Inq V ∧ TapeR V ∧ FltR V ∧ RefR V ∧ ImgR V ∧ ActR V ∧ HvOk V ∧ Wds V ∧ NamR V ∧ TriR V
theorem Inv0.vw {V H : Hp} (h : Inv0 V) (hH : Vw V H) : Inv0 H := by
  obtain ⟨h1, h2, h3, h4, h5, h6, h7, h8, h9, h10⟩ := h
  have hP := h1.ptr
  have hc : ∀ a : Int, (∀ b, scr a b = false) → H a = V a := fun a q => funext fun b => hH a b (q b)
  refine ⟨h1.vw hH, h2.vw hH hP, h3.vw hH hP, h4.vw hH hP, h5.vw hH hP, h6.vw hH hP, h7.vw hH hP, h8.vw hH, h9.cg (hc 91 (fun _ => rfl)) (hc 95 (fun _ => rfl)) (hH 4 0 rfl) ?_, h10.cg (hH 58 7 rfl) (hH 58 8 rfl) (hc 64 (fun _ => rfl)) (hc 65 (fun _ => rfl)) (hc 91 (fun _ => rfl)) (hc 92 (fun _ => rfl)) (hc 93 (fun _ => rfl)) (hc 99 (fun _ => rfl)) (hc 102 (fun _ => rfl)) (hc 103 (fun _ => rfl)) (hc 104 (fun _ => rfl))⟩
  rcases h1.pp with e | e <;> rw [e] <;> exact hc _ (fun _ => rfl)
theorem vw_both {V H : Hp} {c j v : Int} (h : Vw V H) : Vw (hs V c j v) (hs H c j v) := fun a b q => by
  rw [hs_app, hs_app]
  split
  · rfl
  · exact h a b q
/-- one cell of a row that no group but RefR reads -/
theorem Inv0.ref {V : Hp} (h : Inv0 V) {i : Int} (hi : 0 ≤ i ∧ i < 6) : Inv0 (hs (hs V 70 i (w32 (V 70 i + 1))) 73 i (w32 (V 73 i + 1))) := by
  obtain ⟨h1, h2, h3, h4, h5, h6, h7, h8, h9, h10⟩ := h
  have hq : Vq V (hs (hs V 70 i (w32 (V 70 i + 1))) 73 i (w32 (V 73 i + 1))) := (Vq.rf.hs (c := 70) (j := i) rfl).hs (c := 73) (j := i) rfl
  have e : ∀ a : Int, a ≠ 70 → a ≠ 73 → hs (hs V 70 i (w32 (V 70 i + 1))) 73 i (w32 (V 73 i + 1)) a = V a := fun a q1 q2 => by rw [hs_ne q2, hs_ne q1]
  have x1 := e 1 (by decide) (by decide)
  have x2 := e 2 (by decide) (by decide)
  have x3 := e 3 (by decide) (by decide)
  have x4 := e 4 (by decide) (by decide)
  have x71 := e 71 (by decide) (by decide)
  have x72 := e 72 (by decide) (by decide)
  have x24 := e 24 (by decide) (by decide)
  have x139 := e 139 (by decide) (by decide)
  have e4p : V 4 0 + 4 ≠ 70 ∧ V 4 0 + 4 ≠ 73 := by rcases h1.pp with e' | e' <;> rw [e'] <;> decide
  refine ⟨h1.vq hq, ?_, ?_, ?_, ?_, ?_, ?_, ?_, h9.cg (e 91 (by decide) (by decide)) (e 95 (by decide) (by decide)) (by rw [x4]) (e _ e4p.1 e4p.2), h10.cg (by rw [e 58 (by decide) (by decide)]) (by rw [e 58 (by decide) (by decide)]) (e 64 (by decide) (by decide)) (e 65 (by decide) (by decide)) (e 91 (by decide) (by decide)) (e 92 (by decide) (by decide)) (e 93 (by decide) (by decide)) (e 99 (by decide) (by decide)) (e 102 (by decide) (by decide)) (e 103 (by decide) (by decide)) (e 104 (by decide) (by decide))⟩
  · unfold TapeR at h2 ⊢; simp only [x2, x3, x71, x72]; exact h2
  · unfold FltR at h3 ⊢; simp only [x1, x71]; exact h3
  · intro k hk
    have := h4 k hk
    obtain ⟨n, rfl⟩ := Int.eq_ofNat_of_zero_le hi.1
    have h5' := h4 n (by omega)
    rw [hs_ne (by decide)]
    rw [hs_app, hs_app]
    by_cases q : k = n
    · subst q
      rw [if_pos ⟨rfl, rfl⟩, if_pos ⟨rfl, rfl⟩, h5']
    · rw [if_neg (fun z => q (Int.ofNat_inj.mp z.2)), if_neg (fun z => q (Int.ofNat_inj.mp z.2)), hs_ne (by decide)]
      exact this
  · unfold ImgR at h5 ⊢; simp only [x4, x24, x71, x139]; exact h5
  · have e20 := e 20 (by decide) (by decide)
    have e21 := e 21 (by decide) (by decide)
    have e22 := e 22 (by decide) (by decide)
    have e23 := e 23 (by decide) (by decide)
    have e91 := e 91 (by decide) (by decide)
    have e94 := e 94 (by decide) (by decide)
    have e107 := e 107 (by decide) (by decide)
    have e108 := e 108 (by decide) (by decide)
    have e109 := e 109 (by decide) (by decide)
    have e110 := e 110 (by decide) (by decide)
    have e111 := e 111 (by decide) (by decide)
    generalize hs (hs V 70 i (w32 (V 70 i + 1))) 73 i (w32 (V 73 i + 1)) = H at *
    have g1 : ∀ i, snK H i = snK V i := fun i => by cases i <;> simp only [snK, x71, e108]
    have g2 : ∀ i, snH H i = snH V i := fun i => by cases i <;> simp only [snH, x71, e109]
    have g3 : ∀ i, snD H i = snD V i := fun i => by cases i <;> simp only [snD, x71, e110]
    have g4 : ∀ i k, snS H i k = snS V i k := fun i k => by cases i <;> simp only [snS, x71, e107, e111]
    unfold ActR ActI OkI nS nR nN at h6 ⊢
    simp only [x4, x71, e20, e21, e22, e23, e91, e94, g1, g2, g3, g4]
    exact h6
  · have e66 := e 66 (by decide) (by decide)
    have e67 := e 67 (by decide) (by decide)
    have e68 := e 68 (by decide) (by decide)
    unfold HvOk at h7 ⊢; simp only [e66, e67, e68]; exact h7
  · have hs : wdL.all (fun q => decide (q.1 ≠ 70) && decide (q.1 ≠ 73)) = true := by decide +kernel
    intro q hq
    have := List.all_eq_true.mp hs q hq
    simp only [Bool.and_eq_true, decide_eq_true_eq] at this
    rw [e q.1 this.1 this.2]
    exact h8 q hq
section SM
variable {d : Nat} {V H : Hp} {Q : AV → Hp → Prop}
set_option maxRecDepth 20000 in
theorem q_refuse (hP : Ptr V) (hH : Vw V H) {i : Int} (hi : 0 ≤ i ∧ i < 6) : CC d EO_refuse [va 1, vi i] H Q = Q (vi 0) (hs H 70 i (w32 (V 70 i + 1))) := by
  refine CC_dt fun Q hQ => ?_
  have c1 : ¬ i < 0 := by omega
  have c2 : ¬ (6 : Int) ≤ i := by omega
  have f := hH.f hP
  simp only [en_EO_refuse, e_EO_refuse_0, k_EO_refuse_0, e_EO_refuse_1, k_EO_refuse_1, rr, sh, Nat.reduceLT, Nat.reduceMul, Int.reduceToNat, Int.reduceGT, Int.reduceGE, Int.reduceNe, true_and, and_true, true_or, or_true, false_or, or_false, and_self, or_self, if_true, if_false, reduceIte, not_true_eq_false, not_false_eq_true, Int.reduceEq, Int.reduceNe, Int.reduceLT, Int.reduceLE, Int.reduceAdd, Int.reduceSub, Int.reduceMul, Int.reduceNeg, Nat.reduceAdd, Nat.reduceLeDiff, Nat.reduceEqDiff, ne_eq, List.length_cons, List.length_nil, Nat.reduceSub, f, c1, c2, hi]
  exact hQ
set_option maxRecDepth 20000 in
theorem q_endC (hP : Ptr V) (hH : Vw V H) {n : Int} : CC (d + 1) EO_end [va 1, vi n] H Q = if 0 ≤ n ∧ n ≤ V 2 1 then Q (vi 1) (hs H 2 1 n) else Q (vi 0) (hs H 70 0 (w32 (V 70 0 + 1))) := by
  have f := hH.f hP
  by_cases c1 : n < 0
  · have c0 : ¬ (0 ≤ n ∧ n ≤ V 2 1) := by clear f; omega
    simp only [en_EO_end, e_EO_end_0, k_EO_end_0, e_EO_end_1, k_EO_end_1, e_EO_end_2, k_EO_end_2, e_EO_end_3, k_EO_end_3, en_TP_cut, e_TP_cut_0, k_TP_cut_0, e_TP_cut_1, k_TP_cut_1, e_TP_cut_2, k_TP_cut_2, rr, sh, Nat.reduceLT, Nat.reduceMul, Int.reduceToNat, Int.reduceGT, Int.reduceGE, Int.reduceNe, true_and, and_true, true_or, or_true, false_or, or_false, and_self, or_self, if_true, if_false, reduceIte, not_true_eq_false, not_false_eq_true, Int.reduceEq, Int.reduceNe, Int.reduceLT, Int.reduceLE, Int.reduceAdd, Int.reduceSub, Int.reduceMul, Int.reduceNeg, Nat.reduceAdd, Nat.reduceLeDiff, Nat.reduceEqDiff, ne_eq, List.length_cons, List.length_nil, Nat.reduceSub, f, c1, c0, q_refuse hP hH (show (0 : Int) ≤ 0 ∧ (0 : Int) < 6 by decide)]
  · by_cases c2 : n ≤ V 2 1
    · have c0 : 0 ≤ n ∧ n ≤ V 2 1 := by clear f; omega
      simp only [en_EO_end, e_EO_end_0, k_EO_end_0, e_EO_end_1, k_EO_end_1, e_EO_end_2, k_EO_end_2, e_EO_end_3, k_EO_end_3, en_TP_cut, e_TP_cut_0, k_TP_cut_0, e_TP_cut_1, k_TP_cut_1, e_TP_cut_2, k_TP_cut_2, rr, sh, Nat.reduceLT, Nat.reduceMul, Int.reduceToNat, Int.reduceGT, Int.reduceGE, Int.reduceNe, true_and, and_true, true_or, or_true, false_or, or_false, and_self, or_self, if_true, if_false, reduceIte, not_true_eq_false, not_false_eq_true, Int.reduceEq, Int.reduceNe, Int.reduceLT, Int.reduceLE, Int.reduceAdd, Int.reduceSub, Int.reduceMul, Int.reduceNeg, Nat.reduceAdd, Nat.reduceLeDiff, Nat.reduceEqDiff, ne_eq, List.length_cons, List.length_nil, Nat.reduceSub, f, c1, c2, c0]
    · have c0 : ¬ (0 ≤ n ∧ n ≤ V 2 1) := by clear f; omega
      simp only [en_EO_end, e_EO_end_0, k_EO_end_0, e_EO_end_1, k_EO_end_1, e_EO_end_2, k_EO_end_2, e_EO_end_3, k_EO_end_3, en_TP_cut, e_TP_cut_0, k_TP_cut_0, e_TP_cut_1, k_TP_cut_1, e_TP_cut_2, k_TP_cut_2, rr, sh, Nat.reduceLT, Nat.reduceMul, Int.reduceToNat, Int.reduceGT, Int.reduceGE, Int.reduceNe, true_and, and_true, true_or, or_true, false_or, or_false, and_self, or_self, if_true, if_false, reduceIte, not_true_eq_false, not_false_eq_true, Int.reduceEq, Int.reduceNe, Int.reduceLT, Int.reduceLE, Int.reduceAdd, Int.reduceSub, Int.reduceMul, Int.reduceNeg, Nat.reduceAdd, Nat.reduceLeDiff, Nat.reduceEqDiff, ne_eq, List.length_cons, List.length_nil, Nat.reduceSub, f, c1, c2, c0, and_false, q_refuse hP hH (show (0 : Int) ≤ 0 ∧ (0 : Int) < 6 by decide)]
set_option maxRecDepth 20000 in
theorem q_endM (hP : Ptr V) (hH : Vw V H) {n : Int} : CC d MO_end [va 71, vi n] H Q = if 0 ≤ n ∧ n ≤ V 71 1 then Q (vi 1) (hs H 71 1 n) else Q (vi 0) (hs H 73 0 (w32 (V 73 0 + 1))) := by
  have f := hH.f hP
  by_cases c1 : n < 0
  · have c0 : ¬ (0 ≤ n ∧ n ≤ V 71 1) := by clear f; omega
    simp only [en_MO_end, e_MO_end_0, k_MO_end_0, e_MO_end_1, k_MO_end_1, e_MO_end_2, k_MO_end_2, rr, sh, Nat.reduceLT, Nat.reduceMul, Int.reduceToNat, Int.reduceGT, Int.reduceGE, Int.reduceNe, true_and, and_true, true_or, or_true, false_or, or_false, and_self, or_self, if_true, if_false, reduceIte, not_true_eq_false, not_false_eq_true, Int.reduceEq, Int.reduceNe, Int.reduceLT, Int.reduceLE, Int.reduceAdd, Int.reduceSub, Int.reduceMul, Int.reduceNeg, Nat.reduceAdd, Nat.reduceLeDiff, Nat.reduceEqDiff, ne_eq, List.length_cons, List.length_nil, Nat.reduceSub, f, c1, c0]
  · by_cases c2 : n ≤ V 71 1
    · have c0 : 0 ≤ n ∧ n ≤ V 71 1 := by clear f; omega
      simp only [en_MO_end, e_MO_end_0, k_MO_end_0, e_MO_end_1, k_MO_end_1, e_MO_end_2, k_MO_end_2, rr, sh, Nat.reduceLT, Nat.reduceMul, Int.reduceToNat, Int.reduceGT, Int.reduceGE, Int.reduceNe, true_and, and_true, true_or, or_true, false_or, or_false, and_self, or_self, if_true, if_false, reduceIte, not_true_eq_false, not_false_eq_true, Int.reduceEq, Int.reduceNe, Int.reduceLT, Int.reduceLE, Int.reduceAdd, Int.reduceSub, Int.reduceMul, Int.reduceNeg, Nat.reduceAdd, Nat.reduceLeDiff, Nat.reduceEqDiff, ne_eq, List.length_cons, List.length_nil, Nat.reduceSub, f, c1, c2, c0, and_false]
    · have c0 : ¬ (0 ≤ n ∧ n ≤ V 71 1) := by clear f; omega
      simp only [en_MO_end, e_MO_end_0, k_MO_end_0, e_MO_end_1, k_MO_end_1, e_MO_end_2, k_MO_end_2, rr, sh, Nat.reduceLT, Nat.reduceMul, Int.reduceToNat, Int.reduceGT, Int.reduceGE, Int.reduceNe, true_and, and_true, true_or, or_true, false_or, or_false, and_self, or_self, if_true, if_false, reduceIte, not_true_eq_false, not_false_eq_true, Int.reduceEq, Int.reduceNe, Int.reduceLT, Int.reduceLE, Int.reduceAdd, Int.reduceSub, Int.reduceMul, Int.reduceNeg, Nat.reduceAdd, Nat.reduceLeDiff, Nat.reduceEqDiff, ne_eq, List.length_cons, List.length_nil, Nat.reduceSub, f, c1, c2, c0, and_false]
set_option maxRecDepth 20000 in
theorem q_seedC (hP : Ptr V) (hH : Vw V H) {n : Int} : CC (d + 1) EO_seed [va 1, vi n] H Q = if 0 ≤ n then Q (vi 1) (hs H 4 5 n) else Q (vi 0) (hs H 70 4 (w32 (V 70 4 + 1))) := by
  have f := hH.f hP
  by_cases c1 : 0 ≤ n
  · simp only [en_EO_seed, e_EO_seed_0, k_EO_seed_0, e_EO_seed_1, k_EO_seed_1, rr, sh, Nat.reduceLT, Nat.reduceMul, Int.reduceToNat, Int.reduceGT, Int.reduceGE, Int.reduceNe, true_and, and_true, true_or, or_true, false_or, or_false, and_self, or_self, if_true, if_false, reduceIte, not_true_eq_false, not_false_eq_true, Int.reduceEq, Int.reduceNe, Int.reduceLT, Int.reduceLE, Int.reduceAdd, Int.reduceSub, Int.reduceMul, Int.reduceNeg, Nat.reduceAdd, Nat.reduceLeDiff, Nat.reduceEqDiff, ne_eq, List.length_cons, List.length_nil, Nat.reduceSub, f, c1]
  · simp only [en_EO_seed, e_EO_seed_0, k_EO_seed_0, e_EO_seed_1, k_EO_seed_1, rr, sh, Nat.reduceLT, Nat.reduceMul, Int.reduceToNat, Int.reduceGT, Int.reduceGE, Int.reduceNe, true_and, and_true, true_or, or_true, false_or, or_false, and_self, or_self, if_true, if_false, reduceIte, not_true_eq_false, not_false_eq_true, Int.reduceEq, Int.reduceNe, Int.reduceLT, Int.reduceLE, Int.reduceAdd, Int.reduceSub, Int.reduceMul, Int.reduceNeg, Nat.reduceAdd, Nat.reduceLeDiff, Nat.reduceEqDiff, ne_eq, List.length_cons, List.length_nil, Nat.reduceSub, f, c1, q_refuse hP hH (show (0 : Int) ≤ 4 ∧ (4 : Int) < 6 by decide)]
set_option maxRecDepth 20000 in
theorem q_seedM (hP : Ptr V) (hH : Vw V H) {n : Int} : CC d MO_seed [va 71, vi n] H Q = if 0 ≤ n then Q (vi 1) (hs H 71 57 n) else Q (vi 0) (hs H 73 4 (w32 (V 73 4 + 1))) := by
  have f := hH.f hP
  by_cases c1 : 0 ≤ n
  · simp only [en_MO_seed, e_MO_seed_0, k_MO_seed_0, e_MO_seed_1, k_MO_seed_1, rr, sh, Nat.reduceLT, Nat.reduceMul, Int.reduceToNat, Int.reduceGT, Int.reduceGE, Int.reduceNe, true_and, and_true, true_or, or_true, false_or, or_false, and_self, or_self, if_true, if_false, reduceIte, not_true_eq_false, not_false_eq_true, Int.reduceEq, Int.reduceNe, Int.reduceLT, Int.reduceLE, Int.reduceAdd, Int.reduceSub, Int.reduceMul, Int.reduceNeg, Nat.reduceAdd, Nat.reduceLeDiff, Nat.reduceEqDiff, ne_eq, List.length_cons, List.length_nil, Nat.reduceSub, f, c1]
  · simp only [en_MO_seed, e_MO_seed_0, k_MO_seed_0, e_MO_seed_1, k_MO_seed_1, rr, sh, Nat.reduceLT, Nat.reduceMul, Int.reduceToNat, Int.reduceGT, Int.reduceGE, Int.reduceNe, true_and, and_true, true_or, or_true, false_or, or_false, and_self, or_self, if_true, if_false, reduceIte, not_true_eq_false, not_false_eq_true, Int.reduceEq, Int.reduceNe, Int.reduceLT, Int.reduceLE, Int.reduceAdd, Int.reduceSub, Int.reduceMul, Int.reduceNeg, Nat.reduceAdd, Nat.reduceLeDiff, Nat.reduceEqDiff, ne_eq, List.length_cons, List.length_nil, Nat.reduceSub, f, c1]
def faultS (V : Hp) (w : Int) : Int := if w = 0 then V 71 7 else if w = 1 then V 71 8 else -1
def statusS (V : Hp) (w : Int) : Int := if 0 ≤ w ∧ w < 6 then V 73 w else -1
def octS (V : Hp) (k : Int) : Int := if 0 ≤ k ∧ k < V 71 98 then V 139 k else -1
set_option maxRecDepth 20000 in
theorem q_faultC (hP : Ptr V) (hF : FltR V) (hH : Vw V H) {w : Int} : CC d EO_fault [va 1, vi w] H Q = Q (vi (faultS V w)) H := by
  have f := hH.f hP
  obtain ⟨f1, f2⟩ := hF
  unfold faultS
  by_cases w0 : w = 0
  · simp only [en_EO_fault, e_EO_fault_0, k_EO_fault_0, e_EO_fault_1, k_EO_fault_1, e_EO_fault_2, k_EO_fault_2, e_EO_fault_3, k_EO_fault_3, rr, sh, Nat.reduceLT, Nat.reduceMul, Int.reduceToNat, Int.reduceGT, Int.reduceGE, Int.reduceNe, true_and, and_true, true_or, or_true, false_or, or_false, and_self, or_self, if_true, if_false, reduceIte, not_true_eq_false, not_false_eq_true, Int.reduceEq, Int.reduceNe, Int.reduceLT, Int.reduceLE, Int.reduceAdd, Int.reduceSub, Int.reduceMul, Int.reduceNeg, Nat.reduceAdd, Nat.reduceLeDiff, Nat.reduceEqDiff, ne_eq, List.length_cons, List.length_nil, Nat.reduceSub, f, w0, f1]
  · by_cases w1 : w = 1
    · subst w1; simp only [en_EO_fault, e_EO_fault_0, k_EO_fault_0, e_EO_fault_1, k_EO_fault_1, e_EO_fault_2, k_EO_fault_2, e_EO_fault_3, k_EO_fault_3, rr, sh, Nat.reduceLT, Nat.reduceMul, Int.reduceToNat, Int.reduceGT, Int.reduceGE, Int.reduceNe, true_and, and_true, true_or, or_true, false_or, or_false, and_self, or_self, if_true, if_false, reduceIte, not_true_eq_false, not_false_eq_true, Int.reduceEq, Int.reduceNe, Int.reduceLT, Int.reduceLE, Int.reduceAdd, Int.reduceSub, Int.reduceMul, Int.reduceNeg, Nat.reduceAdd, Nat.reduceLeDiff, Nat.reduceEqDiff, ne_eq, List.length_cons, List.length_nil, Nat.reduceSub, f, f2]
    · simp only [en_EO_fault, e_EO_fault_0, k_EO_fault_0, e_EO_fault_1, k_EO_fault_1, e_EO_fault_2, k_EO_fault_2, e_EO_fault_3, k_EO_fault_3, rr, sh, Nat.reduceLT, Nat.reduceMul, Int.reduceToNat, Int.reduceGT, Int.reduceGE, Int.reduceNe, true_and, and_true, true_or, or_true, false_or, or_false, and_self, or_self, if_true, if_false, reduceIte, not_true_eq_false, not_false_eq_true, Int.reduceEq, Int.reduceNe, Int.reduceLT, Int.reduceLE, Int.reduceAdd, Int.reduceSub, Int.reduceMul, Int.reduceNeg, Nat.reduceAdd, Nat.reduceLeDiff, Nat.reduceEqDiff, ne_eq, List.length_cons, List.length_nil, Nat.reduceSub, f, w0, w1]
set_option maxRecDepth 20000 in
theorem q_faultM (hP : Ptr V) (hH : Vw V H) {w : Int} : CC d MO_fault [va 71, vi w] H Q = Q (vi (faultS V w)) H := by
  have f := hH.f hP
  unfold faultS
  by_cases w0 : w = 0
  · simp only [en_MO_fault, e_MO_fault_0, k_MO_fault_0, e_MO_fault_1, k_MO_fault_1, e_MO_fault_2, k_MO_fault_2, e_MO_fault_3, k_MO_fault_3, rr, sh, Nat.reduceLT, Nat.reduceMul, Int.reduceToNat, Int.reduceGT, Int.reduceGE, Int.reduceNe, true_and, and_true, true_or, or_true, false_or, or_false, and_self, or_self, if_true, if_false, reduceIte, not_true_eq_false, not_false_eq_true, Int.reduceEq, Int.reduceNe, Int.reduceLT, Int.reduceLE, Int.reduceAdd, Int.reduceSub, Int.reduceMul, Int.reduceNeg, Nat.reduceAdd, Nat.reduceLeDiff, Nat.reduceEqDiff, ne_eq, List.length_cons, List.length_nil, Nat.reduceSub, f, w0]
  · by_cases w1 : w = 1
    · subst w1; simp only [en_MO_fault, e_MO_fault_0, k_MO_fault_0, e_MO_fault_1, k_MO_fault_1, e_MO_fault_2, k_MO_fault_2, e_MO_fault_3, k_MO_fault_3, rr, sh, Nat.reduceLT, Nat.reduceMul, Int.reduceToNat, Int.reduceGT, Int.reduceGE, Int.reduceNe, true_and, and_true, true_or, or_true, false_or, or_false, and_self, or_self, if_true, if_false, reduceIte, not_true_eq_false, not_false_eq_true, Int.reduceEq, Int.reduceNe, Int.reduceLT, Int.reduceLE, Int.reduceAdd, Int.reduceSub, Int.reduceMul, Int.reduceNeg, Nat.reduceAdd, Nat.reduceLeDiff, Nat.reduceEqDiff, ne_eq, List.length_cons, List.length_nil, Nat.reduceSub, f]
    · simp only [en_MO_fault, e_MO_fault_0, k_MO_fault_0, e_MO_fault_1, k_MO_fault_1, e_MO_fault_2, k_MO_fault_2, e_MO_fault_3, k_MO_fault_3, rr, sh, Nat.reduceLT, Nat.reduceMul, Int.reduceToNat, Int.reduceGT, Int.reduceGE, Int.reduceNe, true_and, and_true, true_or, or_true, false_or, or_false, and_self, or_self, if_true, if_false, reduceIte, not_true_eq_false, not_false_eq_true, Int.reduceEq, Int.reduceNe, Int.reduceLT, Int.reduceLE, Int.reduceAdd, Int.reduceSub, Int.reduceMul, Int.reduceNeg, Nat.reduceAdd, Nat.reduceLeDiff, Nat.reduceEqDiff, ne_eq, List.length_cons, List.length_nil, Nat.reduceSub, f, w0, w1]
set_option maxRecDepth 20000 in
theorem q_statusC (hP : Ptr V) (hR : RefR V) (hH : Vw V H) {w : Int} : CC d EO_status [va 1, vi w] H Q = Q (vi (statusS V w)) H := by
  unfold statusS
  by_cases c : 0 ≤ w ∧ w < 6
  · obtain ⟨n, rfl⟩ := Int.eq_ofNat_of_zero_le c.1
    have e := hR n (by omega)
    have c1 : ¬ (n : Int) < 0 := by clear e; omega
    have c2 : ¬ (6 : Int) ≤ n := by clear e; omega
    have f := hH.f hP
    simp only [en_EO_status, e_EO_status_0, k_EO_status_0, e_EO_status_1, k_EO_status_1, e_EO_status_2, k_EO_status_2, rr, sh, Nat.reduceLT, Nat.reduceMul, Int.reduceToNat, Int.reduceGT, Int.reduceGE, Int.reduceNe, true_and, and_true, true_or, or_true, false_or, or_false, and_self, or_self, if_true, if_false, reduceIte, not_true_eq_false, not_false_eq_true, Int.reduceEq, Int.reduceNe, Int.reduceLT, Int.reduceLE, Int.reduceAdd, Int.reduceSub, Int.reduceMul, Int.reduceNeg, Nat.reduceAdd, Nat.reduceLeDiff, Nat.reduceEqDiff, ne_eq, List.length_cons, List.length_nil, Nat.reduceSub, f, c1, c2, c, e]
  · by_cases c1 : w < 0
    · have f := hH.f hP
      simp only [en_EO_status, e_EO_status_0, k_EO_status_0, e_EO_status_1, k_EO_status_1, e_EO_status_2, k_EO_status_2, rr, sh, Nat.reduceLT, Nat.reduceMul, Int.reduceToNat, Int.reduceGT, Int.reduceGE, Int.reduceNe, true_and, and_true, true_or, or_true, false_or, or_false, and_self, or_self, if_true, if_false, reduceIte, not_true_eq_false, not_false_eq_true, Int.reduceEq, Int.reduceNe, Int.reduceLT, Int.reduceLE, Int.reduceAdd, Int.reduceSub, Int.reduceMul, Int.reduceNeg, Nat.reduceAdd, Nat.reduceLeDiff, Nat.reduceEqDiff, ne_eq, List.length_cons, List.length_nil, Nat.reduceSub, f, c1, c]
    · have c2 : (6 : Int) ≤ w := by omega
      have f := hH.f hP
      simp only [en_EO_status, e_EO_status_0, k_EO_status_0, e_EO_status_1, k_EO_status_1, e_EO_status_2, k_EO_status_2, rr, sh, Nat.reduceLT, Nat.reduceMul, Int.reduceToNat, Int.reduceGT, Int.reduceGE, Int.reduceNe, true_and, and_true, true_or, or_true, false_or, or_false, and_self, or_self, if_true, if_false, reduceIte, not_true_eq_false, not_false_eq_true, Int.reduceEq, Int.reduceNe, Int.reduceLT, Int.reduceLE, Int.reduceAdd, Int.reduceSub, Int.reduceMul, Int.reduceNeg, Nat.reduceAdd, Nat.reduceLeDiff, Nat.reduceEqDiff, ne_eq, List.length_cons, List.length_nil, Nat.reduceSub, f, c1, c2, c]
set_option maxRecDepth 20000 in
theorem q_statusM (hP : Ptr V) (hH : Vw V H) {w : Int} : CC (d + 1) MO_status [va 71, vi w] H Q = Q (vi (statusS V w)) H := by
  unfold statusS
  by_cases c : 0 ≤ w ∧ w < 6
  · have c2 : 0 ≤ w ∧ w ≤ 5 := by omega
    have f := hH.f hP
    simp only [en_MO_status, e_MO_status_0, k_MO_status_0, e_MO_status_1, k_MO_status_1, e_MO_status_2, k_MO_status_2, rr, sh, Nat.reduceLT, Nat.reduceMul, Int.reduceToNat, Int.reduceGT, Int.reduceGE, Int.reduceNe, true_and, and_true, true_or, or_true, false_or, or_false, and_self, or_self, if_true, if_false, reduceIte, not_true_eq_false, not_false_eq_true, Int.reduceEq, Int.reduceNe, Int.reduceLT, Int.reduceLE, Int.reduceAdd, Int.reduceSub, Int.reduceMul, Int.reduceNeg, Nat.reduceAdd, Nat.reduceLeDiff, Nat.reduceEqDiff, ne_eq, List.length_cons, List.length_nil, Nat.reduceSub, ite10_0, ite10_1, f, q_isIn, c2, c]
  · have c2 : ¬ (0 ≤ w ∧ w ≤ 5) := by omega
    have f := hH.f hP
    simp only [en_MO_status, e_MO_status_0, k_MO_status_0, e_MO_status_1, k_MO_status_1, e_MO_status_2, k_MO_status_2, rr, sh, Nat.reduceLT, Nat.reduceMul, Int.reduceToNat, Int.reduceGT, Int.reduceGE, Int.reduceNe, true_and, and_true, true_or, or_true, false_or, or_false, and_self, or_self, if_true, if_false, reduceIte, not_true_eq_false, not_false_eq_true, Int.reduceEq, Int.reduceNe, Int.reduceLT, Int.reduceLE, Int.reduceAdd, Int.reduceSub, Int.reduceMul, Int.reduceNeg, Nat.reduceAdd, Nat.reduceLeDiff, Nat.reduceEqDiff, ne_eq, List.length_cons, List.length_nil, Nat.reduceSub, ite10_0, ite10_1, f, q_isIn, c2, c]
end SM
