/-! stroke: both, and what stands behind -/
section SK
variable {d : Nat} {V H : Hp} {Q : AV → Hp → Prop}
set_option maxRecDepth 20000 in
theorem BoatM.cg (h : BoatM V) (e : ∀ a, 91 ≤ a → a ≤ 106 → H a = V a) (e46 : H 71 46 = V 71 46) : BoatM H := by
  unfold BoatM eaV nS nR nU nY nN at h ⊢
  simp only [e 91 (by decide) (by decide), e 92 (by decide) (by decide), e 93 (by decide) (by decide), e 94 (by decide) (by decide), e 96 (by decide) (by decide), e 97 (by decide) (by decide), e 98 (by decide) (by decide), e 99 (by decide) (by decide), e 100 (by decide) (by decide), e 101 (by decide) (by decide), e 103 (by decide) (by decide), e 104 (by decide) (by decide), e 105 (by decide) (by decide), e 106 (by decide) (by decide), e46]
  exact h
set_option maxRecDepth 20000 in
theorem CrewM.cg (h : CrewM V) (e91 : H 91 = V 91) (e107 : H 107 = V 107) (e47 : H 71 47 = V 71 47) (e48 : H 71 48 = V 71 48) (e49 : H 71 49 = V 71 49) (e57 : H 71 57 = V 71 57) (e96 : H 96 = V 96) (e97 : H 97 = V 97) : CrewM H := by
  unfold CrewM sdV nS nR nN at h ⊢
  simp only [e91, e107, e47, e48, e49, e57, e96, e97]
  exact h
set_option maxRecDepth 20000 in
theorem PlanC.cg {p : Int} (hp : p = 5 ∨ p = 25) (h : PlanC V p) (e : ∀ a, 91 ≤ a → a ≤ 106 → H a = V a) (e46 : H 71 46 = V 71 46) (ep : ∀ a, (5 ≤ a ∧ a ≤ 17) ∨ (25 ≤ a ∧ a ≤ 37) → H a = V a) : PlanC H p := by
  unfold PlanC eaV nS nR nU nY nN at h ⊢
  rcases hp with rfl | rfl
  all_goals
    simp only [Int.reduceAdd] at h ⊢
    simp only [e 91 (by decide) (by decide), e 92 (by decide) (by decide), e 93 (by decide) (by decide), e 94 (by decide) (by decide), e 96 (by decide) (by decide), e 97 (by decide) (by decide), e 98 (by decide) (by decide), e 99 (by decide) (by decide), e 100 (by decide) (by decide), e 101 (by decide) (by decide), e 102 (by decide) (by decide), e 103 (by decide) (by decide), e 104 (by decide) (by decide), e 105 (by decide) (by decide), e 106 (by decide) (by decide), e46, ep 5 (by decide), ep 6 (by decide), ep 7 (by decide), ep 8 (by decide), ep 9 (by decide), ep 10 (by decide), ep 11 (by decide), ep 12 (by decide), ep 13 (by decide), ep 14 (by decide), ep 15 (by decide), ep 16 (by decide), ep 17 (by decide), ep 25 (by decide), ep 26 (by decide), ep 27 (by decide), ep 28 (by decide), ep 29 (by decide), ep 30 (by decide), ep 31 (by decide), ep 32 (by decide), ep 33 (by decide), ep 34 (by decide), ep 35 (by decide), ep 36 (by decide), ep 37 (by decide)]
    exact h
/-- an act leaves the pointers, the boat, the plan -/
theorem Fx.actP (hS : Fx actS V H) (h : Ptr V) : Ptr H := by
  have hs : ptL.all (fun q => !actS q.1 q.2.1) = true := by decide +kernel
  intro q hq
  have := List.all_eq_true.mp hs q hq
  rw [hS q.1 q.2.1 (by simpa using this)]
  exact h q hq
theorem actS_c {a : Int} (h : (91 ≤ a ∧ a ≤ 106) ∨ (5 ≤ a ∧ a ≤ 17) ∨ (25 ≤ a ∧ a ≤ 37)) (b : Int) : actS a b = false := by
  unfold actS
  rw [if_neg (by omega), if_neg (by omega), if_neg (by omega), if_neg (by omega), if_neg (by omega), if_neg (by omega), if_neg (by omega), if_neg (by omega), if_neg (by omega), if_neg (by omega), if_neg (by omega), if_neg (by omega), if_neg (by omega)]
theorem Fx.actB (hS : Fx actS V H) (h : BoatM V) : BoatM H := h.cg (fun a h1 h2 => hS.cell a (actS_c (Or.inl ⟨h1, h2⟩))) (hS 71 46 rfl)
theorem Fx.actL (hS : Fx actS V H) {p : Int} (hp : p = 5 ∨ p = 25) (h : PlanC V p) : PlanC H p := h.cg hp (fun a h1 h2 => hS.cell a (actS_c (Or.inl ⟨h1, h2⟩))) (hS 71 46 rfl) (fun a h => hS.cell a (actS_c (Or.inr h)))
theorem nt_act {k a b : Int} : Fx actS V (ntH V k a b) := ((((((Fx.rf.hs (c := 20) rfl).hs (c := 21) rfl).hs (c := 22) rfl).hs (c := 23) rfl).hs (c := 4) (j := 10) rfl).hs (c := 4) (j := 11) rfl)
theorem sKP_act (a b : Int) (h : sKP a b = true) : actS a b = true := by
  unfold sKP at h
  by_cases h1 : a = 108
  · subst h1; rfl
  · by_cases h2 : a = 109
    · subst h2; rfl
    · by_cases h3 : a = 110
      · subst h3; rfl
      · by_cases h4 : a = 111
        · subst h4; rfl
        · by_cases h5 : a = 71
          · subst h5
            simp at h
            rcases h with rfl | rfl <;> rfl
          · simp [h1, h2, h3, h4, h5] at h
set_option maxRecDepth 20000 in
theorem c_strokeM (hM : Inm V) (hm : 0 ≤ V 71 56 ∧ V 71 56 < 30) (hc : 0 ≤ V 71 55 ∧ V 71 55 ≤ 30) {n : Int} (hno : ¬ ((1 ≤ n ∧ n ≤ 200) ∧ V 71 47 + n ≤ 9999) → Q (vi (-1)) (hs V 73 2 (w32 (V 73 2 + 1)))) (hQ : ((1 ≤ n ∧ n ≤ 200) ∧ V 71 47 + n ≤ 9999) → ∀ H2, KeepR V H2 → Q (vi (V 71 47 + n)) (hs H2 71 47 (V 71 47 + n))) : CC (d + 2) MO_stroke [va 71, vi n] V Q := by
  have ht := hM.crew.stroke
  have hH : Vw V V := Vw.rf
  by_cases h : (1 ≤ n ∧ n ≤ 200) ∧ V 71 47 + n ≤ 9999
  · have w1 : w32 (V 71 47 + n) = V 71 47 + n := w32_id (by omega) (by omega)
    simp only [en_MO_stroke, e_MO_stroke_0, k_MO_stroke_0, e_MO_stroke_1, k_MO_stroke_1, rr, sh, Nat.reduceLT, Nat.reduceMul, Int.reduceToNat, Int.reduceGT, Int.reduceGE, Int.reduceNe, true_and, and_true, true_or, or_true, false_or, or_false, and_self, or_self, if_true, if_false, reduceIte, not_true_eq_false, not_false_eq_true, Int.reduceEq, Int.reduceNe, Int.reduceLT, Int.reduceLE, Int.reduceAdd, Int.reduceSub, Int.reduceMul, Int.reduceNeg, Nat.reduceAdd, Nat.reduceLeDiff, Nat.reduceEqDiff, ne_eq, List.length_cons, List.length_nil, Nat.reduceSub, sh, q_canGoM hM hH, h]
    refine c_keeps hM.ptr hH hm hc fun H2 hK => ?_
    have e1 : H2 71 47 = V 71 47 := hK.1 71 47 rfl
    simp only [rr, sh, Nat.reduceLT, Nat.reduceMul, Int.reduceToNat, Int.reduceGT, Int.reduceGE, Int.reduceNe, true_and, and_true, true_or, or_true, false_or, or_false, and_self, or_self, if_true, if_false, reduceIte, not_true_eq_false, not_false_eq_true, Int.reduceEq, Int.reduceNe, Int.reduceLT, Int.reduceLE, Int.reduceAdd, Int.reduceSub, Int.reduceMul, Int.reduceNeg, Nat.reduceAdd, Nat.reduceLeDiff, Nat.reduceEqDiff, ne_eq, List.length_cons, List.length_nil, Nat.reduceSub, e1, w1, hs_same]
    exact hQ h H2 hK
  · have p9 : V 71 9 = 73 := hM.ptr (71, 9, 73) (by decide +kernel)
    simp only [en_MO_stroke, e_MO_stroke_0, k_MO_stroke_0, e_MO_stroke_1, k_MO_stroke_1, rr, sh, Nat.reduceLT, Nat.reduceMul, Int.reduceToNat, Int.reduceGT, Int.reduceGE, Int.reduceNe, true_and, and_true, true_or, or_true, false_or, or_false, and_self, or_self, if_true, if_false, reduceIte, not_true_eq_false, not_false_eq_true, Int.reduceEq, Int.reduceNe, Int.reduceLT, Int.reduceLE, Int.reduceAdd, Int.reduceSub, Int.reduceMul, Int.reduceNeg, Nat.reduceAdd, Nat.reduceLeDiff, Nat.reduceEqDiff, ne_eq, List.length_cons, List.length_nil, Nat.reduceSub, sh, q_canGoM hM hH, h, p9]
    exact hno h
end SK
