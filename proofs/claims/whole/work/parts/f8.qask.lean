/-! QUESTIONS: the reference's loop; the same values on a like state -/
section QV9
variable {d : Nat} {V H : Hp} {Q : AV → Hp → Prop} {i : Int} {cs : List Int} {w : Nat}
theorem s95_scr (a b : Int) (h : s95 a b = true) : scr a b = true := by
  unfold s95 at h
  simp only [Bool.or_eq_true, Bool.and_eq_true, decide_eq_true_eq] at h
  rcases h with ⟨rfl, rfl | rfl⟩ <;> rfl
theorem KoM.f95 {H' : Hp} (h : KoM H cs) (hF : Fx s95 H H') : KoM H' cs := ⟨(hF 71 88 rfl).trans h.1, fun k hk => (hF 136 k rfl).trans (h.2 k hk)⟩
set_option maxRecDepth 20000 in
theorem c_askAns (hM : Inm V) (hH : Vw V H) (hcl : cs.length ≤ 1600) {n : Nat} (hn : n ≤ 40) (hw : WFq V cs n (decide (w ≤ 2))) (hK : KoM H cs) (h5 : w ≤ 5) (h95 : H 71 95 = qA V w (vQ V cs) 0) (h96 : H 71 96 = 1) (hQ : ∀ H', Vw V H' → Q (vl (ansQ V w (vQ V cs))) H') : R (d + 10) MO_ask (blk MO_ask 9) [va 71, vi w, vi (V 71 47 + (nTq V : Nat) - 1), vi (V 71 47)] [] H Q := by
  have hst := hM.crew.stroke
  obtain ⟨n0, n1, n2, n3⟩ := nTq_f hst.1 hst.2
  have hvb : ∀ k : Nat, k < nTq V → BdQ (vQ V cs (V 71 47 + k)) ∧ (w ≤ 2 → isBl (vQ V cs (V 71 47 + k))) := fun k hk => by
    have := vQ_bd (i := V 71 47 + k) hn hw (by omega) (by omega)
    exact ⟨this.1, fun z => this.2 (decide_eq_true z)⟩
  have key : ∀ k : Nat, k ≤ nTq V → ∀ H1, Vw V H1 → KoM H1 cs → H1 71 95 = qA V w (vQ V cs) k → H1 71 96 = (if k = 0 then 1 else 0) → R (d + 10) MO_ask (blk MO_ask 9) [va 71, vi w, vi (V 71 47 + (nTq V : Nat) - 1), vi (V 71 47 + k)] [] H1 Q := by
    refine up_nat (P := fun k => ∀ H1, Vw V H1 → KoM H1 cs → H1 71 95 = qA V w (vQ V cs) k → H1 71 96 = (if k = 0 then 1 else 0) → R (d + 10) MO_ask (blk MO_ask 9) [va 71, vi w, vi (V 71 47 + (nTq V : Nat) - 1), vi (V 71 47 + k)] [] H1 Q) ?_ ?_
    · intro H1 v1 k1 a1 a2
      have c1 : V 71 47 + (nTq V : Nat) - 1 < V 71 47 + (nTq V : Nat) := by omega
      have fin := hQ H1 v1
      rw [← qA_ans n1, ← a1] at fin
      rw [e_MO_ask_9]
      simp only [k_MO_ask_9, e_MO_ask_10, k_MO_ask_10, rr, sh, Nat.reduceLT, Nat.reduceMul, Int.reduceToNat, Int.reduceGT, Int.reduceGE, Int.reduceNe, true_and, and_true, true_or, or_true, false_or, or_false, and_self, or_self, if_true, if_false, reduceIte, not_true_eq_false, not_false_eq_true, Int.reduceEq, Int.reduceNe, Int.reduceLT, Int.reduceLE, Int.reduceAdd, Int.reduceSub, Int.reduceMul, Int.reduceNeg, Nat.reduceAdd, Nat.reduceLeDiff, Nat.reduceEqDiff, ne_eq, List.length_cons, List.length_nil, Nat.reduceSub, c1]
      exact fin
    · intro k hk ih H1 v1 k1 a1 a2
      have c1 : ¬ V 71 47 + (nTq V : Nat) - 1 < V 71 47 + (k : Int) := by omega
      have kw : w32 (V 71 47 + (k : Int) + 1) = V 71 47 + ((k + 1 : Nat) : Int) := by rw [w32_id (by omega) (by omega)]; omega
      have i0 : 0 ≤ V 71 47 + (k : Int) := by omega
      have i9 : V 71 47 + (k : Int) ≤ 9999 := by omega
      have tb := aT_bd (v := vQ V cs) (t := V 71 47) (fun j hj => (hvb j hj).1) k (Nat.le_of_lt hk)
      have st := qA_step (V := V) (w := w) (v := vQ V cs) (k := k) (by omega) h5 (hvb k hk).1 (hvb k hk).2 tb
      clear tb
      rw [e_MO_ask_9]
      simp only [k_MO_ask_9, rr, sh, Nat.reduceLT, Nat.reduceMul, Int.reduceToNat, Int.reduceGT, Int.reduceGE, Int.reduceNe, true_and, and_true, true_or, or_true, false_or, or_false, and_self, or_self, if_true, if_false, reduceIte, not_true_eq_false, not_false_eq_true, Int.reduceEq, Int.reduceNe, Int.reduceLT, Int.reduceLE, Int.reduceAdd, Int.reduceSub, Int.reduceMul, Int.reduceNeg, Nat.reduceAdd, Nat.reduceLeDiff, Nat.reduceEqDiff, ne_eq, List.length_cons, List.length_nil, Nat.reduceSub, c1]
      refine c_qTold (d := d + 3) hM v1 i0 i9 hcl hn hw k1 (fun H2 F => ?_)
      have b1 : H2 71 95 = qA V w (vQ V cs) k := (F 71 95 rfl).trans a1
      have b2 : H2 71 96 = (if k = 0 then 1 else 0) := (F 71 96 rfl).trans a2
      have v2 := fx_vw v1 F sSM_scr
      have k2 := k1.fx F
      refine c_qTakes h5 (fun H3 F3 g1 g2 => ?_)
      rw [b1, b2, st] at g1
      have := ih H3 (fx_vw v2 F3 s95_scr) (k2.f95 F3) g1 (by rw [g2, if_neg (Nat.succ_ne_zero k)])
      simp only [rr, sh, Nat.reduceLT, Nat.reduceMul, Int.reduceToNat, Int.reduceGT, Int.reduceGE, Int.reduceNe, true_and, and_true, true_or, or_true, false_or, or_false, and_self, or_self, if_true, if_false, reduceIte, not_true_eq_false, not_false_eq_true, Int.reduceEq, Int.reduceNe, Int.reduceLT, Int.reduceLE, Int.reduceAdd, Int.reduceSub, Int.reduceMul, Int.reduceNeg, Nat.reduceAdd, Nat.reduceLeDiff, Nat.reduceEqDiff, ne_eq, List.length_cons, List.length_nil, Nat.reduceSub, kw]
      exact this
  have := key 0 (Nat.zero_le _) H hH hK h95 (by rw [h96, if_pos rfl])
  rw [show V 71 47 + ((0 : Nat) : Int) = V 71 47 from Int.add_zero _] at this
  exact this
set_option maxRecDepth 20000 in
theorem c_askEnd {X : Hp} (hM : Inm V) (hX : Vw V (hs (hs X 71 7 0) 71 8 (-1))) (k5 : X 71 5 = 0) (k6 : X 71 6 = -1) (hcl : cs.length ≤ 1600) {n : Nat} (hn : n ≤ 40) (hw : WFq V cs n (decide (w ≤ 2))) (hK : KoM X cs) (h5 : w ≤ 5) (hQ : ∀ H', Vw V H' → Q (vl (ansQ V w (vQ V cs))) H') : R (d + 10) MO_ask (blk MO_ask 3) [va 71, vi w, vu, vu] [] X Q := by
  have hst := hM.crew.stroke
  obtain ⟨n0, n1, n2, n3⟩ := nTq_f hst.1 hst.2
  have e47 : X 71 47 = V 71 47 := by have := hX 71 47 rfl; rw [hs2 (by decide), hs2 (by decide)] at this; exact this
  have w1 : w32 (V 71 47 + 100) = V 71 47 + 100 := w32_id (by omega) (by omega)
  have go : ∀ a : Int, a = qA V w (vQ V cs) 0 → R (d + 10) MO_ask (blk MO_ask 9) [va 71, vi w, vi (V 71 47 + (nTq V : Nat) - 1), vi (V 71 47)] [] (hs (hs (hs (hs X 71 7 0) 71 8 (-1)) 71 95 a) 71 96 1) Q := fun a ea => by
    refine c_askAns (d := d) hM ((hX.hs rfl).hs rfl) hcl hn hw ⟨?_, fun k hk => ?_⟩ h5 ?_ hs_same hQ
    · rw [hs2 (by decide), hs2 (by decide), hs2 (by decide), hs2 (by decide)]; exact hK.1
    · rw [hs_ne' (by decide), hs_ne' (by decide), hs_ne' (by decide), hs_ne' (by decide)]; exact hK.2 k hk
    · rw [hs2 (by decide), hs_same]; exact ea
  have to : (9999 < V 71 47 + 100 → V 71 47 + (nTq V : Nat) - 1 = 9999) ∧ (¬ 9999 < V 71 47 + 100 → V 71 47 + (nTq V : Nat) - 1 = V 71 47 + 100) := by omega
  rw [e_MO_ask_3]
  by_cases c1 : w < 2
  · have c2 : ¬ (2 : Int) ≤ (w : Int) := by omega
    have g := go (-1) (by unfold qA; have : w = 0 ∨ w = 1 := by omega
                          rcases this with rfl | rfl <;> rfl)
    by_cases c3 : V 71 47 + 100 ≤ 9999
    · rw [to.2 (by omega)] at g
      simp only [k_MO_ask_3, e_MO_ask_4, k_MO_ask_4, e_MO_ask_5, k_MO_ask_5, e_MO_ask_6, k_MO_ask_6, e_MO_ask_7, k_MO_ask_7, e_MO_ask_8, k_MO_ask_8, rr, sh, Nat.reduceLT, Nat.reduceMul, Int.reduceToNat, Int.reduceGT, Int.reduceGE, Int.reduceNe, true_and, and_true, true_or, or_true, false_or, or_false, and_self, or_self, if_true, if_false, reduceIte, not_true_eq_false, not_false_eq_true, Int.reduceEq, Int.reduceNe, Int.reduceLT, Int.reduceLE, Int.reduceAdd, Int.reduceSub, Int.reduceMul, Int.reduceNeg, Nat.reduceAdd, Nat.reduceLeDiff, Nat.reduceEqDiff, ne_eq, List.length_cons, List.length_nil, Nat.reduceSub, hs_app, false_and, and_false, k5, k6, c2, e47, w1, c3]
      exact g
    · rw [to.1 (by omega)] at g
      simp only [k_MO_ask_3, e_MO_ask_4, k_MO_ask_4, e_MO_ask_5, k_MO_ask_5, e_MO_ask_6, k_MO_ask_6, e_MO_ask_7, k_MO_ask_7, e_MO_ask_8, k_MO_ask_8, rr, sh, Nat.reduceLT, Nat.reduceMul, Int.reduceToNat, Int.reduceGT, Int.reduceGE, Int.reduceNe, true_and, and_true, true_or, or_true, false_or, or_false, and_self, or_self, if_true, if_false, reduceIte, not_true_eq_false, not_false_eq_true, Int.reduceEq, Int.reduceNe, Int.reduceLT, Int.reduceLE, Int.reduceAdd, Int.reduceSub, Int.reduceMul, Int.reduceNeg, Nat.reduceAdd, Nat.reduceLeDiff, Nat.reduceEqDiff, ne_eq, List.length_cons, List.length_nil, Nat.reduceSub, hs_app, false_and, and_false, k5, k6, c2, e47, w1, c3]
      exact g
  · have c2 : (2 : Int) ≤ (w : Int) := by omega
    have g := go 0 (by unfold qA; have : w = 2 ∨ w = 3 ∨ w = 4 ∨ w = 5 := by omega
                       rcases this with rfl | rfl | rfl | rfl <;> rfl)
    by_cases c3 : V 71 47 + 100 ≤ 9999
    · rw [to.2 (by omega)] at g
      simp only [k_MO_ask_3, e_MO_ask_4, k_MO_ask_4, e_MO_ask_5, k_MO_ask_5, e_MO_ask_6, k_MO_ask_6, e_MO_ask_7, k_MO_ask_7, e_MO_ask_8, k_MO_ask_8, rr, sh, Nat.reduceLT, Nat.reduceMul, Int.reduceToNat, Int.reduceGT, Int.reduceGE, Int.reduceNe, true_and, and_true, true_or, or_true, false_or, or_false, and_self, or_self, if_true, if_false, reduceIte, not_true_eq_false, not_false_eq_true, Int.reduceEq, Int.reduceNe, Int.reduceLT, Int.reduceLE, Int.reduceAdd, Int.reduceSub, Int.reduceMul, Int.reduceNeg, Nat.reduceAdd, Nat.reduceLeDiff, Nat.reduceEqDiff, ne_eq, List.length_cons, List.length_nil, Nat.reduceSub, hs_app, false_and, and_false, k5, k6, c2, e47, w1, c3]
      exact g
    · rw [to.1 (by omega)] at g
      simp only [k_MO_ask_3, e_MO_ask_4, k_MO_ask_4, e_MO_ask_5, k_MO_ask_5, e_MO_ask_6, k_MO_ask_6, e_MO_ask_7, k_MO_ask_7, e_MO_ask_8, k_MO_ask_8, rr, sh, Nat.reduceLT, Nat.reduceMul, Int.reduceToNat, Int.reduceGT, Int.reduceGE, Int.reduceNe, true_and, and_true, true_or, or_true, false_or, or_false, and_self, or_self, if_true, if_false, reduceIte, not_true_eq_false, not_false_eq_true, Int.reduceEq, Int.reduceNe, Int.reduceLT, Int.reduceLE, Int.reduceAdd, Int.reduceSub, Int.reduceMul, Int.reduceNeg, Nat.reduceAdd, Nat.reduceLeDiff, Nat.reduceEqDiff, ne_eq, List.length_cons, List.length_nil, Nat.reduceSub, hs_app, false_and, and_false, k5, k6, c2, e47, w1, c3]
      exact g
set_option maxRecDepth 20000 in
theorem c_askErr {X : Hp} {kk pl y : Int} (k5 : X 71 5 = kk) (k6 : X 71 6 = pl) (hk : kk ≠ 0) (hQ : Q (vl (-1000000000000000)) (hs (hs X 71 7 kk) 71 8 pl)) : R (d + 10) MO_ask (blk MO_ask 3) [va 71, vi y, vu, vu] [] X Q := by
  rw [e_MO_ask_3]
  simp only [k_MO_ask_3, rr, sh, Nat.reduceLT, Nat.reduceMul, Int.reduceToNat, Int.reduceGT, Int.reduceGE, Int.reduceNe, true_and, and_true, true_or, or_true, false_or, or_false, and_self, or_self, if_true, if_false, reduceIte, not_true_eq_false, not_false_eq_true, Int.reduceEq, Int.reduceNe, Int.reduceLT, Int.reduceLE, Int.reduceAdd, Int.reduceSub, Int.reduceMul, Int.reduceNeg, Nat.reduceAdd, Nat.reduceLeDiff, Nat.reduceEqDiff, ne_eq, List.length_cons, List.length_nil, Nat.reduceSub, hs_app, false_and, and_false, k5, k6, hk]
  exact hQ
theorem qst_cg {V1 : Hp} (c : ∀ a : Int, 91 ≤ a → a ≤ 107 → V1 a = V a) (c49 : V1 71 49 = V 71 49) (i e : Int) (s : List Int) : qst V1 i e s = qst V i e s := by
  obtain ⟨v1, v2, v3, v4, v5⟩ := val_cg c
  have sd : sdV V1 = sdV V := by unfold sdV; rw [c49]
  have h1 : qOf V1 i = qOf V i := by unfold qOf; rw [v2, sd]
  have h2 : qGd V1 i = qGd V i := by unfold qGd; rw [v3, sd]
  have h3 : ∀ x, qSw V1 i x = qSw V i x := fun x => by unfold qSw; rw [v1, sd]
  have h4 : ∀ x, qFr V1 i x = qFr V i x := fun x => by unfold qFr; rw [v4, v5]
  unfold qst qLf qUn
  rw [h1, h2, h3, h4]
theorem qrun_cg {V1 : Hp} (c : ∀ a : Int, 91 ≤ a → a ≤ 107 → V1 a = V a) (c49 : V1 71 49 = V 71 49) (i : Int) : ∀ es s : List Int, qrun V1 i es s = qrun V i es s ∧ (Sfe V i es s → Sfe V1 i es s)
  | [], s => ⟨rfl, fun h => h⟩
  | e :: es, s => by
    have ih := qrun_cg c c49 i es (qst V i e s)
    have q := qst_cg c c49 i e s
    refine ⟨?_, fun h => ?_⟩
    · show qrun V1 i es (qst V1 i e s) = _
      rw [q]
      exact ih.1
    · show okE e s ∧ (qst V1 i e s).length ≤ 60 ∧ Sfe V1 i es (qst V1 i e s)
      rw [q]
      exact ⟨h.1, h.2.1, ih.2 h.2.2⟩
theorem WFq_cg {V1 : Hp} (c : ∀ a : Int, 91 ≤ a → a ≤ 107 → V1 a = V a) (c49 : V1 71 49 = V 71 49) {n : Nat} {b : Bool} (h : WFq V cs n b) : WFq V1 cs n b := fun i h0 h9 s hs' hl => by
  obtain ⟨a1, v, a2, a3, a4⟩ := h i h0 h9 s hs' hl
  have q := qrun_cg c c49 i cs s
  exact ⟨q.2 a1, v, by rw [q.1]; exact a2, a3, a4⟩
theorem ans_cg {V1 : Hp} (c : ∀ a : Int, 91 ≤ a → a ≤ 107 → V1 a = V a) (c49 : V1 71 49 = V 71 49) (c47 : V1 71 47 = V 71 47) : ansQ V1 w (vQ V1 cs) = ansQ V w (vQ V cs) := by
  have e : vQ V1 cs = vQ V cs := funext fun i => by unfold vQ; rw [(qrun_cg c c49 i cs []).1]
  have n : nTq V1 = nTq V := by unfold nTq; rw [c47]
  unfold ansQ
  rw [e, n, c47]
end QV9
