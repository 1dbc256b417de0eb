/-! QUESTIONS: the reference's parts, in continuations -/
def KCtx (D : Nat) (K : Hp → Prop) (L : AV → Hp → Prop) (E : Hp → Prop) : Prop :=
  (∀ H : Hp, H 71 5 = 0 → CC D MO_qGoesOn [va 71] H L → K H) ∧ (∀ H : Hp, H 71 5 ≠ 0 → E H → K H) ∧ (∀ H : Hp, H 71 5 = 0 → CC D MO_qPartTold [va 71] H (fun _ => K) → L (vi 1) H) ∧ ∀ H : Hp, E H → L (vi 0) H
/-- the head of the reference's loop over what stands ahead of a part -/
def PKq (V B : Hp) (D : Nat) (K : Hp → Prop) (a : Nat) (j : Int) (C W : List Int) (o b : Nat) : Prop := ∀ (H : Hp) (y2 y3 y4 y5 : AV), MQs V B H a j C W o b → R D MO_qPartTold (blk MO_qPartTold 1) [va 71, vi 1, y2, y3, y4, y5] [] H (fun _ => K)
/-- the head of the reference's loop behind a part -/
def GKq (V B : Hp) (D : Nat) (L : AV → Hp → Prop) (a : Nat) (j : Int) (C W : List Int) (o b : Nat) : Prop := ∀ (H : Hp) (y : AV), MQs V B H a j C W o b → R D MO_qGoesOn (blk MO_qGoesOn 0) [va 71, y] [] H L
/-- room for a code more -/
def BdC (H : Hp) : Prop := 0 ≤ H 71 88 ∧ H 71 88 < 1700
def ErQ (B : Hp) (E : Hp → Prop) (kk pl : Int) : Prop := ∀ H' : Hp, Fx sQM B H' → H' 71 5 = kk → H' 71 6 = pl → BdC H' → E H'
section QY1
variable {d : Nat} {V B : Hp} {K : Hp → Prop} {L : AV → Hp → Prop} {E : Hp → Prop} {a : Nat} {j : Int} {C W : List Int} {o b : Nat}
theorem hs_sw {H : Hp} {c j v c' j' v' : Int} (h : ¬ (c = c' ∧ j = j')) : hs (hs H c j v) c' j' v' = hs (hs H c' j' v') c j v := by
  funext x y
  rw [hs_app, hs_app, hs_app, hs_app]
  by_cases c1 : x = c' ∧ y = j'
  · rw [if_pos c1, if_neg (fun z => h ⟨z.1.symm.trans c1.1, z.2.symm.trans c1.2⟩), if_pos c1]
  · rw [if_neg c1, if_neg c1]
theorem sw_op {H : Hp} {a a1 o1 n w n1 : Int} : hs (hs (hs (hs (hs H 71 2 a) 71 2 a1) 71 91 o1) 137 n w) 71 90 n1 = hs (hs (hs (hs (hs H 71 2 a) 71 91 o1) 137 n w) 71 90 n1) 71 2 a1 := by
  rw [hs_sw (H := hs H 71 2 a) (c := 71) (j := 2) (v := a1) (c' := 71) (j' := 91) (by decide), hs_sw (H := hs (hs H 71 2 a) 71 91 o1) (c := 71) (j := 2) (v := a1) (c' := 137) (fun z => absurd z.1 (by decide)), hs_sw (H := hs (hs (hs H 71 2 a) 71 91 o1) 137 n w) (c := 71) (j := 2) (v := a1) (c' := 71) (j' := 90) (by decide)]
theorem k_bad {H : Hp} {x : Int} {y2 y3 y4 y5 : AV} (hb : H 71 5 ≠ 0) (hK : K H) : R (d + 6) MO_qPartTold (blk MO_qPartTold 1) [va 71, vi x, y2, y3, y4, y5] [] H (fun _ => K) := by
  rw [e_MO_qPartTold_1]
  by_cases c : x = 0
  · subst c
    simp only [k_MO_qPartTold_1, e_MO_qPartTold_13, k_MO_qPartTold_13, rr, sh, Nat.reduceLT, Nat.reduceMul, Int.reduceToNat, Int.reduceGT, Int.reduceGE, Int.reduceNe, true_and, and_true, true_or, or_true, false_or, or_false, and_self, or_self, if_true, if_false, reduceIte, not_true_eq_false, not_false_eq_true, Int.reduceEq, Int.reduceNe, Int.reduceLT, Int.reduceLE, Int.reduceAdd, Int.reduceSub, Int.reduceMul, Int.reduceNeg, Nat.reduceAdd, Nat.reduceLeDiff, Nat.reduceEqDiff, ne_eq, List.length_cons, List.length_nil, Nat.reduceSub, hb]
    exact hK
  · simp only [k_MO_qPartTold_1, e_MO_qPartTold_13, k_MO_qPartTold_13, rr, sh, Nat.reduceLT, Nat.reduceMul, Int.reduceToNat, Int.reduceGT, Int.reduceGE, Int.reduceNe, true_and, and_true, true_or, or_true, false_or, or_false, and_self, or_self, if_true, if_false, reduceIte, not_true_eq_false, not_false_eq_true, Int.reduceEq, Int.reduceNe, Int.reduceLT, Int.reduceLE, Int.reduceAdd, Int.reduceSub, Int.reduceMul, Int.reduceNeg, Nat.reduceAdd, Nat.reduceLeDiff, Nat.reduceEqDiff, ne_eq, List.length_cons, List.length_nil, Nat.reduceSub, c, hb]
    exact hK
theorem MQs.fx {H : Hp} (h : MQs V B H a j C W o b) : Fx sQM B H := h.2.2.2.2.2.2
theorem MQs.fail {H : Hp} (h : MQs V B H a j C W o b) {x kk pl : Int} : Fx sQM B (hs (hs (hs H 71 2 x) 71 5 kk) 71 6 pl) := ((h.fx.hs (c := 71) (j := 2) rfl).hs (c := 71) (j := 5) rfl).hs (c := 71) (j := 6) rfl
theorem BdC.h2 {H : Hp} (h : BdC H) {x : Int} : BdC (hs H 71 2 x) := by
  unfold BdC at h ⊢
  rw [hs2 (by decide)]
  exact h
theorem MQs.bc {H : Hp} (h : MQs V B H a j C W o b) (hT : TapeR V) : BdC H := by
  have n16 := tpN_le hT
  have l := h.2.2.2.2.2.1
  have k := h.sk.2
  unfold BdC
  rw [h.2.1.1]
  exact ⟨Int.natCast_nonneg _, by omega⟩
theorem MQs.bcf {H : Hp} (h : MQs V B H a j C W o b) (hT : TapeR V) {x kk pl : Int} : BdC (hs (hs (hs H 71 2 x) 71 5 kk) 71 6 pl) := by
  have := h.bc hT
  unfold BdC at this ⊢
  rw [hs2 (by decide), hs2 (by decide), hs2 (by decide)]
  exact this
set_option maxRecDepth 20000 in
/-- ( -/
theorem k_paren (hT : TapeR V) (hPB : Ptr B) (hWB : Wds B) (hc : KCtx (d + 6) K L E) (hb : bz V a = 40) (ho : o < 6) (hn : PKq V B (d + 6) K (skE V (a + 1)) j C (W ++ [20]) (o + 1) b) : PKq V B (d + 6) K a j C W o b := by
  intro H y2 y3 y4 y5 h
  have hm := h.mv
  have k5 := h.k5
  have b2 : hs H 71 2 a 71 2 = a := hs_same
  have n16 := tpN_le hT
  have aw := w32_s (n := a) (Nat.lt_of_le_of_lt (Nat.le_trans h.sk.2 n16) (by decide))
  have qo := fun {Q} => c_qOpens (d := d + 4) (Q := Q) hT hPB hm.1 ho (w := 20) (p := a)
  have qw := fun {Q} => q_qWordOf (d := d + 2) (Q := Q) hT hPB hWB hm (l := 3) (u := 5)
  have hs1 := hm.sign (by rw [hb]; decide)
  have lt := bz_in' (V := V) (k := a) hb (by decide)
  have hp := (hs1.op (o' := o + 1)).wpush (by have := h.2.2.2.2.2.1; have := (skE_rng (V := V) (a := a + 1) lt).1; clear aw; omega) (v := 20)
  rw [sw_op] at hp
  generalize hqw : (if 3 ≤ qWh (wrI V a j QW) ∧ qWh (wrI V a j QW) < 5 then qWh (wrI V a j QW) else -1) = w at qw
  have := hn _ (vi 40) (vi w) y4 y5 hp
  rw [e_MO_qPartTold_1]
  simp only [k_MO_qPartTold_1, e_MO_qPartTold_12, k_MO_qPartTold_12, rr, sh, Nat.reduceLT, Nat.reduceMul, Int.reduceToNat, Int.reduceGT, Int.reduceGE, Int.reduceNe, true_and, and_true, true_or, or_true, false_or, or_false, and_self, or_self, if_true, if_false, reduceIte, not_true_eq_false, not_false_eq_true, Int.reduceEq, Int.reduceNe, Int.reduceLT, Int.reduceLE, Int.reduceAdd, Int.reduceSub, Int.reduceMul, Int.reduceNeg, Nat.reduceAdd, Nat.reduceLeDiff, Nat.reduceEqDiff, ne_eq, List.length_cons, List.length_nil, Nat.reduceSub, hs_app, false_and, and_false, k5, h.look hT, qw, hb, b2, qo, aw]
  exact this
set_option maxRecDepth 20000 in
theorem k_parenN (hT : TapeR V) (hPB : Ptr B) (hWB : Wds B) (hc : KCtx (d + 6) K L E) (hb : bz V a = 40) (ho : o = 6) (hE : ErQ B E 4 a) : PKq V B (d + 6) K a j C W o b := by
  intro H y2 y3 y4 y5 h
  have hm := h.mv
  have k5 := h.k5
  have k5' := hm.1.k5
  have b2 : hs H 71 2 a 71 2 = a := hs_same
  have n16 := tpN_le hT
  have aw := w32_s (n := a) (Nat.lt_of_le_of_lt (Nat.le_trans h.sk.2 n16) (by decide))
  have o6 : hs H 71 2 a 71 91 = 6 := by rw [hm.1.2.2.2.1, ho]; rfl
  have qo := fun {Q} => c_qOpensN (d := d + 4) (Q := Q) k5' o6 (w := 20) (p := a)
  have qw := fun {Q} => q_qWordOf (d := d + 2) (Q := Q) hT hPB hWB hm (l := 3) (u := 5)
  generalize hqw : (if 3 ≤ qWh (wrI V a j QW) ∧ qWh (wrI V a j QW) < 5 then qWh (wrI V a j QW) else -1) = w at qw
  rw [e_MO_qPartTold_1]
  simp only [k_MO_qPartTold_1, e_MO_qPartTold_12, k_MO_qPartTold_12, rr, sh, Nat.reduceLT, Nat.reduceMul, Int.reduceToNat, Int.reduceGT, Int.reduceGE, Int.reduceNe, true_and, and_true, true_or, or_true, false_or, or_false, and_self, or_self, if_true, if_false, reduceIte, not_true_eq_false, not_false_eq_true, Int.reduceEq, Int.reduceNe, Int.reduceLT, Int.reduceLE, Int.reduceAdd, Int.reduceSub, Int.reduceMul, Int.reduceNeg, Nat.reduceAdd, Nat.reduceLeDiff, Nat.reduceEqDiff, ne_eq, List.length_cons, List.length_nil, Nat.reduceSub, hs_app, false_and, and_false, k5, h.look hT, qw, hb, b2, qo, aw]
  have e5 : hs (hs (hs (hs H 71 2 a) 71 5 4) 71 6 a) 71 2 ((a + 1 : Nat) : Int) 71 5 = 4 := by simp only [hs_app, Int.reduceEq, Int.reduceAdd, and_false, false_and, and_true, true_and, if_false, if_true, reduceIte, eq_self, and_self]
  have e6 : hs (hs (hs (hs H 71 2 a) 71 5 4) 71 6 a) 71 2 ((a + 1 : Nat) : Int) 71 6 = a := by simp only [hs_app, Int.reduceEq, Int.reduceAdd, and_false, false_and, and_true, true_and, if_false, if_true, reduceIte, eq_self, and_self]
  have nb : hs (hs (hs (hs H 71 2 a) 71 5 4) 71 6 a) 71 2 ((a + 1 : Nat) : Int) 71 5 ≠ 0 := by rw [e5]; decide
  exact k_bad nb (hc.2.1 _ nb (hE _ (h.fail.hs (c := 71) (j := 2) rfl) e5 e6 (h.bcf hT).h2))
end QY1
