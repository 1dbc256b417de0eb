/-! QUESTIONS: the reference: a comma, a closing bracket -/
section QZ5
variable {d : Nat} {V B : Hp} {K : Hp → Prop} {L : AV → Hp → Prop} {E : Hp → Prop} {a : Nat} {j : Int} {C W : List Int} {o b : Nat}
theorem MQs.setTop {H : Hp} {W1 : List Int} {x y : Int} (h : MQs V B H a j C (W1 ++ [x]) o b) : MQs V B (hs H 137 (W1.length : Nat) y) a j C (W1 ++ [y]) o b := by
  obtain ⟨⟨p, h1, h2⟩, ⟨c1, c2⟩, ⟨w1, w2⟩, ho, hb, hle, hF⟩ := h
  rw [len_s] at w1 hle
  refine ⟨⟨p, h1.c (fun b hb => hs_ne' (by decide)) (hs_ne (by decide)), h2⟩, ⟨(hs_ne' (by decide)).trans c1, fun k hk => (hs_ne' (by decide)).trans (c2 k hk)⟩, ⟨by rw [hs_ne' (by decide), len_s]; exact w1, fun k hk => ?_⟩, (hs_ne' (by decide)).trans ho, (hs_ne' (by decide)).trans hb, by rw [len_s]; exact hle, hF.hs (c := 137) rfl⟩
  rw [hs_at, at_z, getD_app hk]
  by_cases c : k = W1.length
  · rw [if_pos c, if_pos c]
  · rw [if_neg c, if_neg c]
    have hk' : k < (W1 ++ [x]).length := by rw [len_s] at hk ⊢; exact hk
    rw [w2 k hk', getD_app hk', if_neg c]
/-- where the bracket stands that was opened last -/
theorem BrW.mk {W1 s : List Int} {br : Int} (hb : b ≤ W1.length) (hbr : isBr br) (hs' : ∀ x ∈ s, ¬ isBr x) : BrW ((W1 ++ [br]) ++ s.reverse) b br := by
  have l : ((W1 ++ [br]) ++ s.reverse).length = W1.length + 1 + s.length := by rw [List.length_append, List.length_reverse, len_s]
  have g : ((W1 ++ [br]) ++ s.reverse).getD W1.length 0 = br := by
    rw [List.getD_eq_getElem?_getD, List.getElem?_append_left (by rw [len_s]; omega), ← List.getD_eq_getElem?_getD, getD_ap0]
  refine ⟨W1.length + 1, by rw [l]; omega, by omega, fun k h1 h2 => ?_, Or.inr ⟨W1.length, rfl, hb, by rw [g]; exact hbr, g.symm⟩⟩
  rw [List.getD_eq_getElem?_getD, List.getElem?_append_right (by rw [len_s]; exact h1), len_s]
  rw [l] at h2
  have h3 : k - (W1.length + 1) < s.reverse.length := by rw [List.length_reverse]; omega
  rw [List.getElem?_eq_getElem h3]
  exact hs' _ (List.mem_reverse.mp (List.getElem_mem h3))
theorem BrW.no {W1 s : List Int} (hb : b = W1.length) (hs' : ∀ x ∈ s, ¬ isBr x) : BrW (W1 ++ s.reverse) b (-1) := by
  have l : (W1 ++ s.reverse).length = W1.length + s.length := by rw [List.length_append, List.length_reverse]
  refine ⟨W1.length, by rw [l]; omega, by omega, fun k h1 h2 => ?_, Or.inl ⟨hb.symm, rfl⟩⟩
  rw [List.getD_eq_getElem?_getD, List.getElem?_append_right h1]
  rw [l] at h2
  have h3 : k - W1.length < s.reverse.length := by rw [List.length_reverse]; omega
  rw [List.getElem?_eq_getElem h3]
  exact hs' _ (List.mem_reverse.mp (List.getElem_mem h3))
set_option maxRecDepth 20000 in
theorem g_comma (hT : TapeR V) (hPB : Ptr B) (hc : KCtx (d + 6) K L E) {br : Int} {W1 s : List Int} (hbr : br = 21 ∨ br = 22) (hs' : ∀ x ∈ s, ¬ isBr x) (hb : b ≤ W1.length) (b44 : bz V a = 44) (hn : PKq V B (d + 6) K (skE V (a + 1)) j (C ++ s) (W1 ++ [br + 2]) o b) : GKq V B (d + 6) L a j C ((W1 ++ [br]) ++ s.reverse) o b := by
  intro H y h
  have hm := h.mv
  have k5 := h.k5
  have hB : isBr br := by unfold isBr; omega
  have hw : BrW ((W1 ++ [br]) ++ s.reverse) b br := BrW.mk hb hB hs'
  have qb := fun {Q} => hw.q (d := d + 4) (Q := Q) hT hPB hm.1
  have hsg := hm.sign (by rw [b44]; decide)
  have k5' := hsg.k5
  have qs : ∀ {Q : AV → Hp → Prop}, CC (d + 5) MO_asksSign [va 71, vi 44] (hs H 71 2 a) Q = Q vu (hs (hs H 71 2 a) 71 2 ((a + 1 : Nat) : Int)) := fun {Q} => by
    rw [q_asksSign (d := d + 3) hT hm.2.1.1 hm.2.1.2.1 hm.2.1.2.2.2.2.2 hm.2.1.2.2.2.1, hm.2.2, if_pos b44, hm.same]
  have fin : ∀ H', MQs V B H' (skE V (a + 1)) j (C ++ s) (W1 ++ [br]) o b → L (vi 1) (hs H' 137 (W1.length : Nat) (br + 2)) := by
    intro H' h'
    have ht := h'.setTop (y := br + 2)
    refine hc.2.2.1 _ ht.k5 ?_
    have := hn _ vu vu vu vu ht
    simp only [en_MO_qPartTold, e_MO_qPartTold_0, k_MO_qPartTold_0, rr, sh, Nat.reduceLT, Nat.reduceMul, Int.reduceToNat, Int.reduceGT, Int.reduceGE, Int.reduceNe, true_and, and_true, true_or, or_true, false_or, or_false, and_self, or_self, if_true, if_false, reduceIte, not_true_eq_false, not_false_eq_true, Int.reduceEq, Int.reduceNe, Int.reduceLT, Int.reduceLE, Int.reduceAdd, Int.reduceSub, Int.reduceMul, Int.reduceNeg, Nat.reduceAdd, Nat.reduceLeDiff, Nat.reduceEqDiff, ne_eq, List.length_cons, List.length_nil, Nat.reduceSub]
    exact this
  have dr := fun (Q : AV → Hp → Prop) hQ => c_dropsTo (d := d + 3) (Q := Q) hT hPB (by rw [len_s]; omega) (Or.inr ⟨W1, br, rfl, hB⟩) s C _ hs' hsg hQ
  clear hn
  rw [e_MO_qGoesOn_0]
  rcases hbr with rfl | rfl
  all_goals
    simp only [k_MO_qGoesOn_0, e_MO_qGoesOn_5, k_MO_qGoesOn_5, e_MO_qGoesOn_12, k_MO_qGoesOn_12, e_MO_qGoesOn_19, k_MO_qGoesOn_19, e_MO_qGoesOn_20, k_MO_qGoesOn_20, e_MO_qGoesOn_21, k_MO_qGoesOn_21, rr, sh, Nat.reduceLT, Nat.reduceMul, Int.reduceToNat, Int.reduceGT, Int.reduceGE, Int.reduceNe, true_and, and_true, true_or, or_true, false_or, or_false, and_self, or_self, if_true, if_false, reduceIte, not_true_eq_false, not_false_eq_true, Int.reduceEq, Int.reduceNe, Int.reduceLT, Int.reduceLE, Int.reduceAdd, Int.reduceSub, Int.reduceMul, Int.reduceNeg, Nat.reduceAdd, Nat.reduceLeDiff, Nat.reduceEqDiff, ne_eq, List.length_cons, List.length_nil, Nat.reduceSub, k5, k5', h.look hT, b44, qb, hm.tsN hT (c := 42) (by rw [b44]; decide), hm.tsN hT (c := 47) (by rw [b44]; decide), hm.tsN hT (c := 43) (by rw [b44]; decide), hm.tsN hT (c := 45) (by rw [b44]; decide), qs, en_MO_qDropsToBracket]
    refine dr _ (fun H' h' => ?_)
    obtain ⟨t1, t2, t3, t4, -⟩ := wtop hT h'
    have p89 : H' 71 89 = 137 := h'.ptr hPB (71, 89, 137) (by decide +kernel)
    have := fin H' h'
    simp only [rr, sh, Nat.reduceLT, Nat.reduceMul, Int.reduceToNat, Int.reduceGT, Int.reduceGE, Int.reduceNe, true_and, and_true, true_or, or_true, false_or, or_false, and_self, or_self, if_true, if_false, reduceIte, not_true_eq_false, not_false_eq_true, Int.reduceEq, Int.reduceNe, Int.reduceLT, Int.reduceLE, Int.reduceAdd, Int.reduceSub, Int.reduceMul, Int.reduceNeg, Nat.reduceAdd, Nat.reduceLeDiff, Nat.reduceEqDiff, ne_eq, List.length_cons, List.length_nil, Nat.reduceSub, p89, t1, t2, t3, t4, show w32 23 = 23 from rfl, show w32 24 = 24 from rfl]
    exact this
set_option maxRecDepth 20000 in
theorem g_close (hT : TapeR V) (hPB : Ptr B) {br : Int} {W0 r s : List Int} {o' : Nat} {m : List Int} (hbr : (br = 20 ∧ m = []) ∨ (br = 23 ∧ m = [5]) ∨ (br = 24 ∧ m = [6])) (hs' : ∀ x ∈ s, ¬ isBr x) (hb : b ≤ W0.length) (ht : tpW W0 b (fun x => x < 60)) (hr : ∀ x ∈ r, 60 ≤ x) (ho : o = o' + r.length + 1) (ho6 : o ≤ 6) (b41 : bz V a = 41) (hn : GKq V B (d + 6) L (skE V (a + 1)) j (C ++ s ++ m ++ r) W0 o' b) : GKq V B (d + 6) L a j C (((W0 ++ r.reverse) ++ [br]) ++ s.reverse) o b := by
  intro H y h
  have hm := h.mv
  have k5 := h.k5
  have hB : isBr br := by unfold isBr; omega
  have oo : o' + r.length ≤ 6 := by omega
  have lW : b ≤ (W0 ++ r.reverse).length := by rw [List.length_append]; omega
  have hw : BrW (((W0 ++ r.reverse) ++ [br]) ++ s.reverse) b br := BrW.mk lW hB hs'
  have qb := fun {Q} => hw.q (d := d + 4) (Q := Q) hT hPB hm.1
  have hsg := hm.sign (by rw [b41]; decide)
  have b2 : hs H 71 2 a 71 2 = a := hs_same
  have n16 := tpN_le hT
  have aw := w32_s (n := a) (Nat.lt_of_le_of_lt (Nat.le_trans h.sk.2 n16) (by decide))
  have dr := fun (Q : AV → Hp → Prop) hQ => c_dropsTo (d := d + 3) (Q := Q) hT hPB (by rw [len_s]; omega) (Or.inr ⟨W0 ++ r.reverse, br, rfl, hB⟩) s C _ hs' hsg hQ
  have ow : w32 (((o' + r.length + 1 : Nat) : Int) - 1) = ((o' + r.length : Nat) : Int) := w_sub (a := o' + r.length + 1) (b := 1) (Nat.le_add_left 1 _) (Nat.lt_of_le_of_lt (ho ▸ ho6) (by decide))
  have ends : ∀ (C' : List Int) (H' : Hp) (y : AV), C' = C ++ s ++ m → MQs V B H' (skE V (a + 1)) j C' (W0 ++ r.reverse) (o' + r.length) b → R (d + 5) MO_qEndsPart (blk MO_qEndsPart 0) [va 71] [] H' (fun _ H2 => R (d + 6) MO_qGoesOn (blk MO_qGoesOn 0) [va 71, y] [] H2 L) := by
    intro C' H' y e h'
    subst e
    exact c_ends (d := d + 3) hT hPB hb ht r _ _ hr oo h' (fun H2 h2 => hn H2 y h2)
  clear hn
  subst ho
  rw [e_MO_qGoesOn_0]
  rcases hbr with ⟨rfl, rfl⟩ | ⟨rfl, rfl⟩ | ⟨rfl, rfl⟩
  · simp only [k_MO_qGoesOn_0, e_MO_qGoesOn_1, k_MO_qGoesOn_1, rr, sh, Nat.reduceLT, Nat.reduceMul, Int.reduceToNat, Int.reduceGT, Int.reduceGE, Int.reduceNe, true_and, and_true, true_or, or_true, false_or, or_false, and_self, or_self, if_true, if_false, reduceIte, not_true_eq_false, not_false_eq_true, Int.reduceEq, Int.reduceNe, Int.reduceLT, Int.reduceLE, Int.reduceAdd, Int.reduceSub, Int.reduceMul, Int.reduceNeg, Nat.reduceAdd, Nat.reduceLeDiff, Nat.reduceEqDiff, ne_eq, List.length_cons, List.length_nil, Nat.reduceSub, k5, h.look hT, b41, qb, b2, aw, en_MO_qDropsToBracket]
    refine dr _ (fun H' h' => ?_)
    obtain ⟨t1, t2, t3, t4, -⟩ := wtop hT h'
    have p89 : H' 71 89 = 137 := h'.ptr hPB (71, 89, 137) (by decide +kernel)
    have o1 := h'.2.2.2.1
    have hp := h'.pop.op (o' := o' + r.length)
    have l1 := h'.2.2.2.2.2.1
    rw [len_s] at l1
    have e0 := ends _ _ y (List.append_nil _).symm hp
    simp only [e_MO_qGoesOn_2, k_MO_qGoesOn_2, e_MO_qGoesOn_3, k_MO_qGoesOn_3, e_MO_qGoesOn_4, k_MO_qGoesOn_4, rr, sh, Nat.reduceLT, Nat.reduceMul, Int.reduceToNat, Int.reduceGT, Int.reduceGE, Int.reduceNe, true_and, and_true, true_or, or_true, false_or, or_false, and_self, or_self, if_true, if_false, reduceIte, not_true_eq_false, not_false_eq_true, Int.reduceEq, Int.reduceNe, Int.reduceLT, Int.reduceLE, Int.reduceAdd, Int.reduceSub, Int.reduceMul, Int.reduceNeg, Nat.reduceAdd, Nat.reduceLeDiff, Nat.reduceEqDiff, ne_eq, List.length_cons, List.length_nil, Nat.reduceSub, hs_app, false_and, and_false, p89, t1, t2, t3, t4, o1, ow, en_MO_qEndsPart]
    exact e0
  · simp only [k_MO_qGoesOn_0, e_MO_qGoesOn_1, k_MO_qGoesOn_1, rr, sh, Nat.reduceLT, Nat.reduceMul, Int.reduceToNat, Int.reduceGT, Int.reduceGE, Int.reduceNe, true_and, and_true, true_or, or_true, false_or, or_false, and_self, or_self, if_true, if_false, reduceIte, not_true_eq_false, not_false_eq_true, Int.reduceEq, Int.reduceNe, Int.reduceLT, Int.reduceLE, Int.reduceAdd, Int.reduceSub, Int.reduceMul, Int.reduceNeg, Nat.reduceAdd, Nat.reduceLeDiff, Nat.reduceEqDiff, ne_eq, List.length_cons, List.length_nil, Nat.reduceSub, k5, h.look hT, b41, qb, b2, aw, en_MO_qDropsToBracket]
    refine dr _ (fun H' h' => ?_)
    obtain ⟨t1, t2, t3, t4, -⟩ := wtop hT h'
    have p89 : H' 71 89 = 137 := h'.ptr hPB (71, 89, 137) (by decide +kernel)
    have o1 := h'.2.2.2.1
    have hp := h'.pop.op (o' := o' + r.length)
    have l1 := h'.2.2.2.2.2.1
    rw [len_s] at l1
    have qc5 := fun {Q} => q_qCode (d := d + 5) (Q := Q) hT hPB hp (v := 5)
    have e5 := ends _ _ y rfl (hp.code (by omega) (v := 5))
    simp only [e_MO_qGoesOn_2, k_MO_qGoesOn_2, e_MO_qGoesOn_3, k_MO_qGoesOn_3, e_MO_qGoesOn_4, k_MO_qGoesOn_4, rr, sh, Nat.reduceLT, Nat.reduceMul, Int.reduceToNat, Int.reduceGT, Int.reduceGE, Int.reduceNe, true_and, and_true, true_or, or_true, false_or, or_false, and_self, or_self, if_true, if_false, reduceIte, not_true_eq_false, not_false_eq_true, Int.reduceEq, Int.reduceNe, Int.reduceLT, Int.reduceLE, Int.reduceAdd, Int.reduceSub, Int.reduceMul, Int.reduceNeg, Nat.reduceAdd, Nat.reduceLeDiff, Nat.reduceEqDiff, ne_eq, List.length_cons, List.length_nil, Nat.reduceSub, hs_app, false_and, and_false, p89, t1, t2, t3, t4, o1, ow, qc5, en_MO_qEndsPart]
    exact e5
  · simp only [k_MO_qGoesOn_0, e_MO_qGoesOn_1, k_MO_qGoesOn_1, rr, sh, Nat.reduceLT, Nat.reduceMul, Int.reduceToNat, Int.reduceGT, Int.reduceGE, Int.reduceNe, true_and, and_true, true_or, or_true, false_or, or_false, and_self, or_self, if_true, if_false, reduceIte, not_true_eq_false, not_false_eq_true, Int.reduceEq, Int.reduceNe, Int.reduceLT, Int.reduceLE, Int.reduceAdd, Int.reduceSub, Int.reduceMul, Int.reduceNeg, Nat.reduceAdd, Nat.reduceLeDiff, Nat.reduceEqDiff, ne_eq, List.length_cons, List.length_nil, Nat.reduceSub, k5, h.look hT, b41, qb, b2, aw, en_MO_qDropsToBracket]
    refine dr _ (fun H' h' => ?_)
    obtain ⟨t1, t2, t3, t4, -⟩ := wtop hT h'
    have p89 : H' 71 89 = 137 := h'.ptr hPB (71, 89, 137) (by decide +kernel)
    have o1 := h'.2.2.2.1
    have hp := h'.pop.op (o' := o' + r.length)
    have l1 := h'.2.2.2.2.2.1
    rw [len_s] at l1
    have qc6 := fun {Q} => q_qCode (d := d + 5) (Q := Q) hT hPB hp (v := 6)
    have e6 := ends _ _ y rfl (hp.code (by omega) (v := 6))
    simp only [e_MO_qGoesOn_2, k_MO_qGoesOn_2, e_MO_qGoesOn_3, k_MO_qGoesOn_3, e_MO_qGoesOn_4, k_MO_qGoesOn_4, rr, sh, Nat.reduceLT, Nat.reduceMul, Int.reduceToNat, Int.reduceGT, Int.reduceGE, Int.reduceNe, true_and, and_true, true_or, or_true, false_or, or_false, and_self, or_self, if_true, if_false, reduceIte, not_true_eq_false, not_false_eq_true, Int.reduceEq, Int.reduceNe, Int.reduceLT, Int.reduceLE, Int.reduceAdd, Int.reduceSub, Int.reduceMul, Int.reduceNeg, Nat.reduceAdd, Nat.reduceLeDiff, Nat.reduceEqDiff, ne_eq, List.length_cons, List.length_nil, Nat.reduceSub, hs_app, false_and, and_false, p89, t1, t2, t3, t4, o1, ow, qc6, en_MO_qEndsPart]
    exact e6
end QZ5
