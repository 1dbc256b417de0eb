/-! QUESTIONS: what waits, the reference -/
def sQM (a b : Int) : Bool := if a = 71 then (decide (b = 2) || (decide (b = 4) || (decide (b = 5) || (decide (b = 6) || (decide (b = 10) || (decide (b = 28) || (decide (b = 88) || (decide (b = 90) || (decide (b = 91) || decide (b = 92)))))))))) else (decide (a = 136) || decide (a = 137))
/-- the reference reads a question: behind blanks at a, C told, W waits, o opened, b the base -/
def MQs (V B H : Hp) (a : Nat) (j : Int) (C W : List Int) (o b : Nat) : Prop := (∃ p : Nat, MRd V H p j ∧ skE V p = a) ∧ (H 71 88 = (C.length : Nat) ∧ ∀ k : Nat, k < C.length → H 136 k = C.getD k 0) ∧ (H 71 90 = (W.length : Nat) ∧ ∀ k : Nat, k < W.length → H 137 k = W.getD k 0) ∧ H 71 91 = o ∧ H 71 92 = b ∧ C.length + W.length ≤ a ∧ Fx sQM B H
theorem sMM_qm (a b : Int) (h : sMM a b = true) : sQM a b = true := by
  unfold sMM at h
  unfold sQM
  by_cases c : a = 71
  · rw [if_pos c] at h ⊢
    simp only [Bool.or_eq_true, decide_eq_true_eq] at h ⊢
    omega
  · rw [if_neg c] at h; cases h
theorem sLM_qm (a b : Int) (h : sLM a b = true) : sQM a b = true := sMM_qm a b (sLM_sMM a b h)
theorem getD_ap0 {l : List Int} {e : Int} : (l ++ [e]).getD l.length 0 = e := by
  rw [getD_app (by rw [List.length_append, List.length_singleton]; omega), if_pos rfl]
theorem len_s {l : List Int} {e : Int} : (l ++ [e]).length = l.length + 1 := by rw [List.length_append, List.length_singleton]
section QW1
variable {d : Nat} {V B H : Hp} {Q : AV → Hp → Prop} {a : Nat} {j : Int} {C W : List Int} {o b : Nat}
theorem MQs.sk (h : MQs V B H a j C W o b) : skE V a = a ∧ a ≤ tpN V := by
  obtain ⟨⟨p, h1, h2⟩, -⟩ := h
  have hn := h1.2.2.2.2.2
  rw [← h2]
  exact ⟨skE_sk hn, (skE_rng hn).2⟩
theorem MQs.ptr (hB : Ptr B) (h : MQs V B H a j C W o b) : Ptr H := ptr_fx hB h.2.2.2.2.2.2 (by decide +kernel)
theorem MQs.wds (hB : Wds B) (h : MQs V B H a j C W o b) : Wds H := wds_fx hB h.2.2.2.2.2.2 (by decide +kernel)
theorem MQs.k5 (h : MQs V B H a j C W o b) : H 71 5 = 0 := by obtain ⟨⟨p, h1, -⟩, -⟩ := h; exact h1.2.2.2.1
theorem MRd.c {p : Nat} (h : MRd V H p j) {H' : Hp} (e : ∀ b, b = 0 ∨ b = 2 ∨ b = 3 ∨ b = 4 ∨ b = 5 ∨ b = 6 → H' 71 b = H 71 b) (e72 : H' 72 = H 72) : MRd V H' p j := by
  unfold MRd TmV at h ⊢
  rw [e 0 (by decide), e 2 (by decide), e 3 (by decide), e 4 (by decide), e 5 (by decide), e 6 (by decide), e72]
  exact h
theorem MQs.code (h : MQs V B H a j C W o b) (hl : C.length + W.length + 1 ≤ a) {v : Int} : MQs V B (hs (hs H 136 (C.length : Nat) v) 71 88 ((C.length + 1 : Nat) : Int)) a j (C ++ [v]) W o b := by
  obtain ⟨⟨p, h1, h2⟩, ⟨c1, c2⟩, ⟨w1, w2⟩, ho, hb, hle, hF⟩ := h
  have e : ∀ b : Int, b ≠ 88 → hs (hs H 136 (C.length : Nat) v) 71 88 ((C.length + 1 : Nat) : Int) 71 b = H 71 b := fun b hb => by rw [hs2 (fun z => hb z.2), hs_ne' (by decide)]
  refine ⟨⟨p, h1.c (fun b hb => e b (by omega)) (by rw [hs_ne (by decide), hs_ne (by decide)]), h2⟩, ⟨by rw [len_s]; exact hs_same, fun k hk => ?_⟩, ⟨(e 90 (by decide)).trans w1, fun k hk => by rw [hs_ne' (by decide), hs_ne' (by decide)]; exact w2 k hk⟩, (e 91 (by decide)).trans ho, (e 92 (by decide)).trans hb, by rw [len_s]; omega, (hF.hs (c := 136) rfl).hs (c := 71) (j := 88) rfl⟩
  rw [getD_app hk, hs_ne' (by decide), hs_at, at_z]
  by_cases c : k = C.length
  · rw [if_pos c, if_pos c]
  · rw [if_neg c, if_neg c]
    rw [len_s] at hk
    exact c2 k (lt_sN hk c)
theorem MQs.wpush (h : MQs V B H a j C W o b) (hl : C.length + W.length + 1 ≤ a) {v : Int} : MQs V B (hs (hs H 137 (W.length : Nat) v) 71 90 ((W.length + 1 : Nat) : Int)) a j C (W ++ [v]) o b := by
  obtain ⟨⟨p, h1, h2⟩, ⟨c1, c2⟩, ⟨w1, w2⟩, ho, hb, hle, hF⟩ := h
  have e : ∀ b : Int, b ≠ 90 → hs (hs H 137 (W.length : Nat) v) 71 90 ((W.length + 1 : Nat) : Int) 71 b = H 71 b := fun b hb => by rw [hs2 (fun z => hb z.2), hs_ne' (by decide)]
  refine ⟨⟨p, h1.c (fun b hb => e b (by omega)) (by rw [hs_ne (by decide), hs_ne (by decide)]), h2⟩, ⟨(e 88 (by decide)).trans c1, fun k hk => by rw [hs_ne' (by decide), hs_ne' (by decide)]; exact c2 k hk⟩, ⟨by rw [len_s]; exact hs_same, fun k hk => ?_⟩, (e 91 (by decide)).trans ho, (e 92 (by decide)).trans hb, by rw [len_s]; omega, (hF.hs (c := 137) rfl).hs (c := 71) (j := 90) rfl⟩
  rw [getD_app hk, hs_ne' (by decide), hs_at, at_z]
  by_cases c : k = W.length
  · rw [if_pos c, if_pos c]
  · rw [if_neg c, if_neg c]
    rw [len_s] at hk
    exact w2 k (lt_sN hk c)
theorem MQs.pop {x : Int} (h : MQs V B H a j C (W ++ [x]) o b) : MQs V B (hs H 71 90 (W.length : Nat)) a j C W o b := by
  obtain ⟨⟨p, h1, h2⟩, ⟨c1, c2⟩, ⟨w1, w2⟩, ho, hb, hle, hF⟩ := h
  have e : ∀ b : Int, b ≠ 90 → hs H 71 90 (W.length : Nat) 71 b = H 71 b := fun b hb => hs2 (fun z => hb z.2)
  rw [len_s] at hle
  refine ⟨⟨p, h1.c (fun b hb => e b (by omega)) (hs_ne (by decide)), h2⟩, ⟨(e 88 (by decide)).trans c1, fun k hk => by rw [hs_ne' (by decide)]; exact c2 k hk⟩, ⟨hs_same, fun k hk => ?_⟩, (e 91 (by decide)).trans ho, (e 92 (by decide)).trans hb, by omega, hF.hs (c := 71) (j := 90) rfl⟩
  have hk' : k < (W ++ [x]).length := by rw [len_s]; omega
  rw [hs_ne' (by decide), w2 k hk', getD_app hk', if_neg (Nat.ne_of_lt hk)]
theorem MQs.op (h : MQs V B H a j C W o b) {o' : Nat} : MQs V B (hs H 71 91 o') a j C W o' b := by
  obtain ⟨⟨p, h1, h2⟩, ⟨c1, c2⟩, ⟨w1, w2⟩, ho, hb, hle, hF⟩ := h
  have e : ∀ b : Int, b ≠ 91 → hs H 71 91 o' 71 b = H 71 b := fun b hb => hs2 (fun z => hb z.2)
  exact ⟨⟨p, h1.c (fun b hb => e b (by omega)) (hs_ne (by decide)), h2⟩, ⟨(e 88 (by decide)).trans c1, fun k hk => by rw [hs_ne' (by decide)]; exact c2 k hk⟩, ⟨(e 90 (by decide)).trans w1, fun k hk => by rw [hs_ne' (by decide)]; exact w2 k hk⟩, hs_same, (e 92 (by decide)).trans hb, hle, hF.hs (c := 71) (j := 91) rfl⟩
theorem MQs.base (h : MQs V B H a j C W o b) {b' : Nat} : MQs V B (hs H 71 92 b') a j C W o b' := by
  obtain ⟨⟨p, h1, h2⟩, ⟨c1, c2⟩, ⟨w1, w2⟩, ho, hb, hle, hF⟩ := h
  have e : ∀ b : Int, b ≠ 92 → hs H 71 92 b' 71 b = H 71 b := fun b hb => hs2 (fun z => hb z.2)
  exact ⟨⟨p, h1.c (fun b hb => e b (by omega)) (hs_ne (by decide)), h2⟩, ⟨(e 88 (by decide)).trans c1, fun k hk => by rw [hs_ne' (by decide)]; exact c2 k hk⟩, ⟨(e 90 (by decide)).trans w1, fun k hk => by rw [hs_ne' (by decide)]; exact w2 k hk⟩, (e 91 (by decide)).trans ho, hs_same, hle, hF.hs (c := 71) (j := 92) rfl⟩
theorem MQs.lm (h : MQs V B H a j C W o b) {H' : Hp} (hF : Fx sLM H H') {p a' : Nat} {i : Int} (hM : MRd V H' p i) (hp : skE V p = a') (ha : a ≤ a') : MQs V B H' a' i C W o b := by
  obtain ⟨-, ⟨c1, c2⟩, ⟨w1, w2⟩, ho, hb, hle, hF0⟩ := h
  exact ⟨⟨p, hM, hp⟩, ⟨(hF 71 88 rfl).trans c1, fun k hk => (hF 136 k rfl).trans (c2 k hk)⟩, ⟨(hF 71 90 rfl).trans w1, fun k hk => (hF 137 k rfl).trans (w2 k hk)⟩, (hF 71 91 rfl).trans ho, (hF 71 92 rfl).trans hb, Nat.le_trans hle ha, hF0.tr (hF.up sLM_qm)⟩
theorem q_qCode (hT : TapeR V) (hPB : Ptr B) (h : MQs V B H a j C W o b) {v : Int} : CC d MO_qCode [va 71, vi v] H Q = Q vu (hs (hs H 136 (C.length : Nat) v) 71 88 ((C.length + 1 : Nat) : Int)) := by
  refine CC_dt fun Q hQ => ?_
  have p87 : H 71 87 = 136 := h.ptr hPB (71, 87, 136) (by decide +kernel)
  have b1 : C.length < 1700 := Nat.lt_of_le_of_lt (Nat.le_trans (Nat.le_add_right _ _) (Nat.le_trans h.2.2.2.2.2.1 (Nat.le_trans h.sk.2 (tpN_le hT)))) (by decide)
  have c1 := h.2.1.1
  have j1 : 0 ≤ (C.length : Int) ∧ (C.length : Int) < 1700 := ix_n b1
  have kw := w32_s (n := C.length) (Nat.lt_trans b1 (by decide))
  simp only [en_MO_qCode, e_MO_qCode_0, k_MO_qCode_0, rr, sh, Nat.reduceLT, Nat.reduceMul, Int.reduceToNat, Int.reduceGT, Int.reduceGE, Int.reduceNe, true_and, and_true, true_or, or_true, false_or, or_false, and_self, or_self, if_true, if_false, reduceIte, not_true_eq_false, not_false_eq_true, Int.reduceEq, Int.reduceNe, Int.reduceLT, Int.reduceLE, Int.reduceAdd, Int.reduceSub, Int.reduceMul, Int.reduceNeg, Nat.reduceAdd, Nat.reduceLeDiff, Nat.reduceEqDiff, ne_eq, List.length_cons, List.length_nil, Nat.reduceSub, hs_app, false_and, and_false, p87, c1, j1, kw]
  exact hQ
theorem wtop (hT : TapeR V) {x : Int} (h : MQs V B H a j C (W ++ [x]) o b) : H 71 90 = ((W.length + 1 : Nat) : Int) ∧ H 137 (W.length : Nat) = x ∧ (0 ≤ (W.length : Int) ∧ (W.length : Int) < 1700) ∧ w32 (((W.length + 1 : Nat) : Int) - 1) = (W.length : Nat) ∧ ¬ ((W.length + 1 : Nat) : Int) ≤ 0 := by
  have l := h.2.2.2.2.2.1
  rw [len_s] at l
  have b1 : W.length < 1700 := by have := h.sk.2; have := tpN_le hT; omega
  have w := h.2.2.1
  rw [len_s] at w
  have w2 := w.2 W.length (by omega)
  rw [getD_ap0] at w2
  exact ⟨w.1, w2, ix_n b1, by rw [w32_id (by omega) (by omega)]; omega, by omega⟩
theorem c_qDrops (hT : TapeR V) (hPB : Ptr B) {x : Int} (h : MQs V B H a j C (W ++ [x]) o b) (hQ : ∀ H', MQs V B H' a j (C ++ [x]) W o b → Q vu H') : CC (d + 1) MO_qDrops [va 71] H Q := by
  obtain ⟨t1, t2, t3, t4, -⟩ := wtop hT h
  have p89 : H 71 89 = 137 := h.ptr hPB (71, 89, 137) (by decide +kernel)
  have hp := h.pop
  have l := h.2.2.2.2.2.1
  rw [len_s] at l
  have := hQ _ (hp.code (by omega) (v := x))
  simp only [en_MO_qDrops, e_MO_qDrops_0, k_MO_qDrops_0, rr, sh, Nat.reduceLT, Nat.reduceMul, Int.reduceToNat, Int.reduceGT, Int.reduceGE, Int.reduceNe, true_and, and_true, true_or, or_true, false_or, or_false, and_self, or_self, if_true, if_false, reduceIte, not_true_eq_false, not_false_eq_true, Int.reduceEq, Int.reduceNe, Int.reduceLT, Int.reduceLE, Int.reduceAdd, Int.reduceSub, Int.reduceMul, Int.reduceNeg, Nat.reduceAdd, Nat.reduceLeDiff, Nat.reduceEqDiff, ne_eq, List.length_cons, List.length_nil, Nat.reduceSub, hs_app, false_and, and_false, p89, t1, t2, t3, t4, q_qCode hT hPB hp]
  exact this
theorem q_qIsOn (hT : TapeR V) (hPB : Ptr B) {x v : Int} (h : MQs V B H a j C (W ++ [x]) o b) : CC d MO_qIsOn [va 71, vi v] H Q = Q (vi (if x = v then 1 else 0)) H := by
  refine CC_dt fun Q hQ => ?_
  obtain ⟨t1, t2, t3, t4, t5⟩ := wtop hT h
  have p89 : H 71 89 = 137 := h.ptr hPB (71, 89, 137) (by decide +kernel)
  by_cases c : x = v
  · subst c
    rw [if_pos rfl] at hQ
    simp only [en_MO_qIsOn, e_MO_qIsOn_0, k_MO_qIsOn_0, e_MO_qIsOn_1, k_MO_qIsOn_1, e_MO_qIsOn_2, k_MO_qIsOn_2, rr, sh, Nat.reduceLT, Nat.reduceMul, Int.reduceToNat, Int.reduceGT, Int.reduceGE, Int.reduceNe, true_and, and_true, true_or, or_true, false_or, or_false, and_self, or_self, if_true, if_false, reduceIte, not_true_eq_false, not_false_eq_true, Int.reduceEq, Int.reduceNe, Int.reduceLT, Int.reduceLE, Int.reduceAdd, Int.reduceSub, Int.reduceMul, Int.reduceNeg, Nat.reduceAdd, Nat.reduceLeDiff, Nat.reduceEqDiff, ne_eq, List.length_cons, List.length_nil, Nat.reduceSub, p89, t1, t2, t3, t4, t5, eq_self]
    exact hQ
  · rw [if_neg c] at hQ
    simp only [en_MO_qIsOn, e_MO_qIsOn_0, k_MO_qIsOn_0, e_MO_qIsOn_1, k_MO_qIsOn_1, e_MO_qIsOn_2, k_MO_qIsOn_2, rr, sh, Nat.reduceLT, Nat.reduceMul, Int.reduceToNat, Int.reduceGT, Int.reduceGE, Int.reduceNe, true_and, and_true, true_or, or_true, false_or, or_false, and_self, or_self, if_true, if_false, reduceIte, not_true_eq_false, not_false_eq_true, Int.reduceEq, Int.reduceNe, Int.reduceLT, Int.reduceLE, Int.reduceAdd, Int.reduceSub, Int.reduceMul, Int.reduceNeg, Nat.reduceAdd, Nat.reduceLeDiff, Nat.reduceEqDiff, ne_eq, List.length_cons, List.length_nil, Nat.reduceSub, p89, t1, t2, t3, t4, t5, c]
    exact hQ
theorem q_qIsOn0 {v : Int} (h : MQs V B H a j C [] o b) : CC d MO_qIsOn [va 71, vi v] H Q = Q (vi 0) H := by
  refine CC_dt fun Q hQ => ?_
  have t1 : H 71 90 = 0 := h.2.2.1.1
  simp only [en_MO_qIsOn, e_MO_qIsOn_0, k_MO_qIsOn_0, e_MO_qIsOn_1, k_MO_qIsOn_1, e_MO_qIsOn_2, k_MO_qIsOn_2, rr, sh, Nat.reduceLT, Nat.reduceMul, Int.reduceToNat, Int.reduceGT, Int.reduceGE, Int.reduceNe, true_and, and_true, true_or, or_true, false_or, or_false, and_self, or_self, if_true, if_false, reduceIte, not_true_eq_false, not_false_eq_true, Int.reduceEq, Int.reduceNe, Int.reduceLT, Int.reduceLE, Int.reduceAdd, Int.reduceSub, Int.reduceMul, Int.reduceNeg, Nat.reduceAdd, Nat.reduceLeDiff, Nat.reduceEqDiff, ne_eq, List.length_cons, List.length_nil, Nat.reduceSub, t1, Int.le_refl]
  exact hQ
theorem c_qOpensN (h5 : H 71 5 = 0) (ho : H 71 91 = 6) {w p : Int} : CC (d + 1) MO_qOpens [va 71, vi w, vi p] H Q = Q vu (hs (hs H 71 5 4) 71 6 p) := by
  refine CC_dt fun Q hQ => ?_
  simp only [en_MO_qOpens, e_MO_qOpens_0, k_MO_qOpens_0, e_MO_qOpens_1, k_MO_qOpens_1, e_MO_qOpens_2, k_MO_qOpens_2, rr, sh, Nat.reduceLT, Nat.reduceMul, Int.reduceToNat, Int.reduceGT, Int.reduceGE, Int.reduceNe, true_and, and_true, true_or, or_true, false_or, or_false, and_self, or_self, if_true, if_false, reduceIte, not_true_eq_false, not_false_eq_true, Int.reduceEq, Int.reduceNe, Int.reduceLT, Int.reduceLE, Int.reduceAdd, Int.reduceSub, Int.reduceMul, Int.reduceNeg, Nat.reduceAdd, Nat.reduceLeDiff, Nat.reduceEqDiff, ne_eq, List.length_cons, List.length_nil, Nat.reduceSub, h5, ho, q_failM h5]
  exact hQ
theorem c_qOpens (hT : TapeR V) (hPB : Ptr B) (h : MQs V B H a j C W o b) (ho : o < 6) {w p : Int} : CC (d + 1) MO_qOpens [va 71, vi w, vi p] H Q = Q vu (hs (hs (hs H 71 91 ((o + 1 : Nat) : Int)) 137 (W.length : Nat) w) 71 90 ((W.length + 1 : Nat) : Int)) := by
  refine CC_dt fun Q hQ => ?_
  have p89 : H 71 89 = 137 := h.ptr hPB (71, 89, 137) (by decide +kernel)
  have h5 := h.k5
  have w1 := h.2.2.1.1
  have o1 := h.2.2.2.1
  have b1 : W.length < 1700 := Nat.lt_of_le_of_lt (Nat.le_trans (Nat.le_add_left _ _) (Nat.le_trans h.2.2.2.2.2.1 (Nat.le_trans h.sk.2 (tpN_le hT)))) (by decide)
  have j1 : 0 ≤ (W.length : Int) ∧ (W.length : Int) < 1700 := ix_n b1
  have n6 : ¬ (o : Int) = 6 := by omega
  have kw := w32_s (n := W.length) (Nat.lt_trans b1 (by decide))
  have ow := wo ho
  simp only [en_MO_qOpens, e_MO_qOpens_0, k_MO_qOpens_0, e_MO_qOpens_1, k_MO_qOpens_1, e_MO_qOpens_2, k_MO_qOpens_2, rr, sh, Nat.reduceLT, Nat.reduceMul, Int.reduceToNat, Int.reduceGT, Int.reduceGE, Int.reduceNe, true_and, and_true, true_or, or_true, false_or, or_false, and_self, or_self, if_true, if_false, reduceIte, not_true_eq_false, not_false_eq_true, Int.reduceEq, Int.reduceNe, Int.reduceLT, Int.reduceLE, Int.reduceAdd, Int.reduceSub, Int.reduceMul, Int.reduceNeg, Nat.reduceAdd, Nat.reduceLeDiff, Nat.reduceEqDiff, ne_eq, List.length_cons, List.length_nil, Nat.reduceSub, hs_app, false_and, and_false, p89, h5, w1, o1, n6, j1, kw, ow]
  exact hQ
/-- brackets -/
def isBr (x : Int) : Prop := 20 ≤ x ∧ x ≤ 24
theorem q_isBr {x : Int} : CC d MO_qIsBracket [vi x] H Q = Q (vi (if 20 ≤ x ∧ x ≤ 24 then 1 else 0)) H := by
  refine CC_dt fun Q hQ => ?_
  by_cases c1 : x < 20
  · rw [if_neg (by omega)] at hQ
    simp only [en_MO_qIsBracket, e_MO_qIsBracket_0, k_MO_qIsBracket_0, e_MO_qIsBracket_1, k_MO_qIsBracket_1, e_MO_qIsBracket_2, k_MO_qIsBracket_2, rr, sh, Nat.reduceLT, Nat.reduceMul, Int.reduceToNat, Int.reduceGT, Int.reduceGE, Int.reduceNe, true_and, and_true, true_or, or_true, false_or, or_false, and_self, or_self, if_true, if_false, reduceIte, not_true_eq_false, not_false_eq_true, Int.reduceEq, Int.reduceNe, Int.reduceLT, Int.reduceLE, Int.reduceAdd, Int.reduceSub, Int.reduceMul, Int.reduceNeg, Nat.reduceAdd, Nat.reduceLeDiff, Nat.reduceEqDiff, ne_eq, List.length_cons, List.length_nil, Nat.reduceSub, c1]
    exact hQ
  · by_cases c2 : 24 < x
    · rw [if_neg (by omega)] at hQ
      simp only [en_MO_qIsBracket, e_MO_qIsBracket_0, k_MO_qIsBracket_0, e_MO_qIsBracket_1, k_MO_qIsBracket_1, e_MO_qIsBracket_2, k_MO_qIsBracket_2, rr, sh, Nat.reduceLT, Nat.reduceMul, Int.reduceToNat, Int.reduceGT, Int.reduceGE, Int.reduceNe, true_and, and_true, true_or, or_true, false_or, or_false, and_self, or_self, if_true, if_false, reduceIte, not_true_eq_false, not_false_eq_true, Int.reduceEq, Int.reduceNe, Int.reduceLT, Int.reduceLE, Int.reduceAdd, Int.reduceSub, Int.reduceMul, Int.reduceNeg, Nat.reduceAdd, Nat.reduceLeDiff, Nat.reduceEqDiff, ne_eq, List.length_cons, List.length_nil, Nat.reduceSub, c1, c2]
      exact hQ
    · rw [if_pos (by omega)] at hQ
      simp only [en_MO_qIsBracket, e_MO_qIsBracket_0, k_MO_qIsBracket_0, e_MO_qIsBracket_1, k_MO_qIsBracket_1, e_MO_qIsBracket_2, k_MO_qIsBracket_2, rr, sh, Nat.reduceLT, Nat.reduceMul, Int.reduceToNat, Int.reduceGT, Int.reduceGE, Int.reduceNe, true_and, and_true, true_or, or_true, false_or, or_false, and_self, or_self, if_true, if_false, reduceIte, not_true_eq_false, not_false_eq_true, Int.reduceEq, Int.reduceNe, Int.reduceLT, Int.reduceLE, Int.reduceAdd, Int.reduceSub, Int.reduceMul, Int.reduceNeg, Nat.reduceAdd, Nat.reduceLeDiff, Nat.reduceEqDiff, ne_eq, List.length_cons, List.length_nil, Nat.reduceSub, c1, c2]
      exact hQ
end QW1
