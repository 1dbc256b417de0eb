/-! THE BOAT'S TEXT: the class's plan cleared; its reading -/
/-- the plan ahead of a text -/
def P0T (V : Hp) : Hp := fun a b => if a = 91 then 0 else if a = 98 then -1 else if a = 99 then 0 else if a = 100 then 0 else V a b
theorem P0T_91 {V : Hp} {b : Int} : P0T V 91 b = 0 := rfl
theorem P0T_t {V : Hp} : sTx (P0T V) = 0 ∧ rTx (P0T V) = 0 ∧ uTx (P0T V) = 0 ∧ yTx (P0T V) = 0 := ⟨rfl, rfl, rfl, rfl⟩
theorem P0T_B {V : Hp} (h : BoatM V) : TxB (P0T V) := by
  obtain ⟨t0, t1, t2, t3⟩ := P0T_t (V := V)
  unfold TxB
  rw [t0, t1, t2, t3]
  have no : ∀ {q : Prop} (k : Nat), k < 0 → q := fun k hk => absurd hk (Nat.not_lt_zero k)
  refine ⟨⟨rfl, by decide⟩, ⟨rfl, by decide⟩, ⟨rfl, by decide⟩, ⟨rfl, by decide⟩, fun k hk => no k hk, fun k hk => no k hk, fun k hk => no k hk, fun k hk => no k hk, fun k hk => no k hk, ?_, ?_, fun q _ => Or.inl rfl, fun q hq h => absurd h (by show ¬ (0 : Int) = 1; decide), fun k hk => no k hk, fun k hk => no k hk, fun k hk => no k hk, fun k hk => no k hk⟩
  · show (-1 : Int) ≤ -1 ∧ (-1 : Int) ≤ 12; decide
  · show (0 : Int) ≤ 0 ∧ (0 : Int) ≤ 9999; decide
section PR
variable {d : Nat} {V P H : Hp} {p : Int} {Q : AV → Hp → Prop}
set_option maxRecDepth 20000 in
theorem c_clearC (hp : p = 5 ∨ p = 25) (hP : Ptr H)
    (hQ : ∀ H', Fx (sPX p) H H' → (H' p 0 = 0 ∧ H' p 4 = 0 ∧ H' p 5 = 0 ∧ H' p 6 = 0 ∧ H' p 10 = -1 ∧ H' p 12 = 0 ∧ H' p 13 = 0 ∧ H' p 17 = 0) → (∀ i : Nat, i < 72 → H' (p + 4) i = 0) → (∀ q : Nat, q < 4 → H' (p + 7) q = -1000000000000000) → (∀ i : Nat, i < 96 → H' (p + 8) i = 0) → Q vu H') : CC (d + 1) PL_clear [va p] H Q := by
  obtain ⟨x1, -, -, -, g4, -, -, g7, g8, -⟩ := pp_f hp hP
  have F : Fx (sPX p) H (hs (hs (hs (hs (hs (hs (hs (hs H p 0 0) p 4 0) p 5 0) p 6 0) p 10 (-1)) p 12 0) p 13 0) p 17 0) := (((((((Fx.rf.hs (sPX_p (by decide))).hs (sPX_p (by decide))).hs (sPX_p (by decide))).hs (sPX_p (by decide))).hs (sPX_p (by decide))).hs (sPX_p (by decide))).hs (sPX_p (by decide))).hs (sPX_p (by decide))
  have v : (hs (hs (hs (hs (hs (hs (hs (hs H p 0 0) p 4 0) p 5 0) p 6 0) p 10 (-1)) p 12 0) p 13 0) p 17 0) p 0 = 0 ∧ (hs (hs (hs (hs (hs (hs (hs (hs H p 0 0) p 4 0) p 5 0) p 6 0) p 10 (-1)) p 12 0) p 13 0) p 17 0) p 4 = 0 ∧ (hs (hs (hs (hs (hs (hs (hs (hs H p 0 0) p 4 0) p 5 0) p 6 0) p 10 (-1)) p 12 0) p 13 0) p 17 0) p 5 = 0 ∧ (hs (hs (hs (hs (hs (hs (hs (hs H p 0 0) p 4 0) p 5 0) p 6 0) p 10 (-1)) p 12 0) p 13 0) p 17 0) p 6 = 0 ∧ (hs (hs (hs (hs (hs (hs (hs (hs H p 0 0) p 4 0) p 5 0) p 6 0) p 10 (-1)) p 12 0) p 13 0) p 17 0) p 10 = -1 ∧ (hs (hs (hs (hs (hs (hs (hs (hs H p 0 0) p 4 0) p 5 0) p 6 0) p 10 (-1)) p 12 0) p 13 0) p 17 0) p 12 = 0 ∧ (hs (hs (hs (hs (hs (hs (hs (hs H p 0 0) p 4 0) p 5 0) p 6 0) p 10 (-1)) p 12 0) p 13 0) p 17 0) p 13 = 0 ∧ (hs (hs (hs (hs (hs (hs (hs (hs H p 0 0) p 4 0) p 5 0) p 6 0) p 10 (-1)) p 12 0) p 13 0) p 17 0) p 17 = 0 ∧ (hs (hs (hs (hs (hs (hs (hs (hs H p 0 0) p 4 0) p 5 0) p 6 0) p 10 (-1)) p 12 0) p 13 0) p 17 0) p 7 = p + 4 ∧ (hs (hs (hs (hs (hs (hs (hs (hs H p 0 0) p 4 0) p 5 0) p 6 0) p 10 (-1)) p 12 0) p 13 0) p 17 0) p 11 = p + 7 ∧ (hs (hs (hs (hs (hs (hs (hs (hs H p 0 0) p 4 0) p 5 0) p 6 0) p 10 (-1)) p 12 0) p 13 0) p 17 0) p 14 = p + 8 := by
    simp only [hs_app, Int.reduceEq, Int.reduceAdd, and_false, false_and, and_true, true_and, if_false, if_true, reduceIte, eq_self, and_self, g4, g7, g8]
  simp only [en_PL_clear, e_PL_clear_0, k_PL_clear_0, rr, sh, Nat.reduceLT, Nat.reduceMul, Int.reduceToNat, Int.reduceGT, Int.reduceGE, Int.reduceNe, true_and, and_true, true_or, or_true, false_or, or_false, and_self, or_self, if_true, if_false, reduceIte, not_true_eq_false, not_false_eq_true, Int.reduceEq, Int.reduceNe, Int.reduceLT, Int.reduceLE, Int.reduceAdd, Int.reduceSub, Int.reduceMul, Int.reduceNeg, Nat.reduceAdd, Nat.reduceLeDiff, Nat.reduceEqDiff, ne_eq, List.length_cons, List.length_nil, Nat.reduceSub, x1]
  generalize hs (hs (hs (hs (hs (hs (hs (hs H p 0 0) p 4 0) p 5 0) p 6 0) p 10 (-1)) p 12 0) p 13 0) p 17 0 = X at *
  obtain ⟨v0, v4, v5, v6, v10, v12, v13, v17, v7, v11, v14⟩ := v
  simp only [v7]
  refine c_fillI (n := 72) g4.2.1 g4.2.2 (by decide) (fun X1 o1 z1 => ?_)
  have e1 : X1 p = X p := o1 p (by omega)
  have v11' : X1 p 11 = p + 7 := by rw [e1]; exact v11
  simp only [rr, sh, Nat.reduceLT, Nat.reduceMul, Int.reduceToNat, Int.reduceGT, Int.reduceGE, Int.reduceNe, true_and, and_true, true_or, or_true, false_or, or_false, and_self, or_self, if_true, if_false, reduceIte, not_true_eq_false, not_false_eq_true, Int.reduceEq, Int.reduceNe, Int.reduceLT, Int.reduceLE, Int.reduceAdd, Int.reduceSub, Int.reduceMul, Int.reduceNeg, Nat.reduceAdd, Nat.reduceLeDiff, Nat.reduceEqDiff, ne_eq, List.length_cons, List.length_nil, Nat.reduceSub, x1, v11', q_JK_fillL4 g7.2.1 g7.2.2]
  have o2 : ∀ c : Int, c ≠ p + 7 → hl [(p + 7, 3, -1000000000000000), (p + 7, 2, -1000000000000000), (p + 7, 1, -1000000000000000), (p + 7, 0, -1000000000000000)] X1 c = X1 c := fun c hc => by
    show hs (hs (hs (hs X1 (p + 7) 0 _) (p + 7) 1 _) (p + 7) 2 _) (p + 7) 3 _ c = X1 c
    rw [hs_ne hc, hs_ne hc, hs_ne hc, hs_ne hc]
  have z2 : ∀ q : Nat, q < 4 → hl [(p + 7, 3, -1000000000000000), (p + 7, 2, -1000000000000000), (p + 7, 1, -1000000000000000), (p + 7, 0, -1000000000000000)] X1 (p + 7) q = -1000000000000000 := fun q hq => by
    show hs (hs (hs (hs X1 (p + 7) 0 _) (p + 7) 1 _) (p + 7) 2 _) (p + 7) 3 _ (p + 7) q = _
    have hq' : q = 0 ∨ q = 1 ∨ q = 2 ∨ q = 3 := by omega
    rcases hq' with rfl | rfl | rfl | rfl
    · rw [hs2 (fun z => absurd z.2 (by decide)), hs2 (fun z => absurd z.2 (by decide)), hs2 (fun z => absurd z.2 (by decide))]; exact hs_same
    · rw [hs2 (fun z => absurd z.2 (by decide)), hs2 (fun z => absurd z.2 (by decide))]; exact hs_same
    · rw [hs2 (fun z => absurd z.2 (by decide))]; exact hs_same
    · exact hs_same
  generalize hl [(p + 7, 3, -1000000000000000), (p + 7, 2, -1000000000000000), (p + 7, 1, -1000000000000000), (p + 7, 0, -1000000000000000)] X1 = X2 at *
  have e2 : X2 p = X p := (o2 p (by omega)).trans e1
  have v14' : X2 p 14 = p + 8 := by rw [e2]; exact v14
  simp only [v14']
  refine c_fillI (n := 96) g8.2.1 g8.2.2 (by decide) (fun X3 o3 z3 => ?_)
  have e3 : X3 p = X p := (o3 p (by omega)).trans e2
  refine hQ X3 (fun a b q => ?_) (by rw [e3]; exact ⟨v0, v4, v5, v6, v10, v12, v13, v17⟩) (fun i hi => ?_) (fun q hq => ?_) z3
  · have h1 : a ≠ p + 4 := fun z => by rw [z, sPX_a (by decide)] at q; cases q
    have h2 : a ≠ p + 7 := fun z => by rw [z, sPX_a (by decide)] at q; cases q
    have h3 : a ≠ p + 8 := fun z => by rw [z, sPX_a (by decide)] at q; cases q
    rw [o3 a h3, o2 a h2, o1 a h1]
    exact F a b q
  · rw [o3 (p + 4) (by omega), o2 (p + 4) (by omega)]; exact z1 i hi
  · rw [o3 (p + 7) (by omega)]; exact z2 q hq
set_option maxRecDepth 20000 in
theorem c_readC (hp : p = 5 ∨ p = 25) (hT : TapeR V) (hP : Ptr V) (hB : BoatM V)
    (he : ∀ kk pl, txO V 70 0 (-1) (P0T V) = .error (kk, pl) → ∀ H', Fx (sCX p) V H' → H' 2 6 = kk → H' 2 7 = pl → Q (vi (-1)) H')
    (ho : ∀ n P', txO V 70 0 (-1) (P0T V) = .ok (n, P') → ∀ H', Fx (sCX p) V H' → H' 2 6 = 0 → H' 2 7 = -1 → PlT P' H' p → Q (vi n) H') : CC (d + 7) BT_read [va 2, va p] V Q := by
  have F1 : Fx sLX V (hs (hs (hs (hs V 2 2 0) 2 3 (-1)) 2 6 0) 2 7 (-1)) := (((Fx.rf.hs (c := 2) (j := 2) rfl).hs (c := 2) (j := 3) rfl).hs (c := 2) (j := 6) rfl).hs (c := 2) (j := 7) rfl
  have P1 := ptr_lx hP F1
  have p20 : V 2 0 = 3 := hP (2, 0, 3) (by decide +kernel)
  have C1 : CRd V (hs (hs (hs (hs V 2 2 0) 2 3 (-1)) 2 6 0) 2 7 (-1)) 0 (-1) := by
    refine ⟨⟨?_, ?_, ?_⟩, ?_, ?_, ?_, hs_same, Nat.zero_le _⟩
    · simp only [hs_app, Int.reduceEq, Int.reduceAdd, and_false, false_and, and_true, true_and, if_false, if_true, reduceIte, eq_self, and_self]; exact p20
    · simp only [hs_app, Int.reduceEq, Int.reduceAdd, and_false, false_and, and_true, true_and, if_false, if_true, reduceIte, eq_self, and_self]
    · rw [hs_ne (by decide), hs_ne (by decide), hs_ne (by decide), hs_ne (by decide)]
    · simp only [hs_app, Int.reduceEq, Int.reduceAdd, and_false, false_and, and_true, true_and, if_false, if_true, reduceIte, eq_self, and_self]; rfl
    · simp only [hs_app, Int.reduceEq, Int.reduceAdd, and_false, false_and, and_true, true_and, if_false, if_true, reduceIte, eq_self, and_self]
    · simp only [hs_app, Int.reduceEq, Int.reduceAdd, and_false, false_and, and_true, true_and, if_false, if_true, reduceIte, eq_self, and_self]
  have x1 : shc p = 5 := by rcases hp with rfl | rfl <;> rfl
  simp only [en_BT_read, e_BT_read_0, k_BT_read_0, en_TP_begin, e_TP_begin_0, k_TP_begin_0, rr, sh, Nat.reduceLT, Nat.reduceMul, Int.reduceToNat, Int.reduceGT, Int.reduceGE, Int.reduceNe, true_and, and_true, true_or, or_true, false_or, or_false, and_self, or_self, if_true, if_false, reduceIte, not_true_eq_false, not_false_eq_true, Int.reduceEq, Int.reduceNe, Int.reduceLT, Int.reduceLE, Int.reduceAdd, Int.reduceSub, Int.reduceMul, Int.reduceNeg, Nat.reduceAdd, Nat.reduceLeDiff, Nat.reduceEqDiff, ne_eq, List.length_cons, List.length_nil, Nat.reduceSub, x1]
  generalize hs (hs (hs (hs V 2 2 0) 2 3 (-1)) 2 6 0) 2 7 (-1) = X at *
  refine c_clearC (d := d + 5) hp P1 (fun X1 F2 ⟨v0, v4, v5, v6, v10, v12, v13, v17⟩ z4 z7 z8 => ?_)
  have G : Fx (sCX p) V X1 := (F1.up (sLX_cx p)).tr (F2.up (sPX_cx p))
  have hL : PlT (P0T V) X1 p := by
    obtain ⟨t0, t1, t2, t3⟩ := P0T_t (V := V)
    unfold PlT
    rw [t0, t1, t2, t3]
    have no : ∀ {q : Prop} (k : Nat), k < 0 → q := fun k hk => absurd hk (Nat.not_lt_zero k)
    refine ⟨⟨v0, v6, v13, v17, v10, v12⟩, ⟨fun k hk => no k hk, fun k hk => no k hk, fun q k _ hk => no k hk⟩, ⟨0, 0, v4, v5, by decide, by decide, fun k hk => no k hk⟩, ⟨fun k hk => no k hk, fun k hk => no k hk⟩, fun q hq => ?_, ⟨fun r k hr _ => no r hr, fun i _ hi => z8 i hi⟩, ⟨fun k hk => no k hk, fun k hk => no k hk⟩, ⟨fun k hk => no k hk, fun k hk => no k hk⟩, ⟨fun k hk => no k hk, fun i _ hi => z4 i hi⟩⟩
    show X1 (p + 7) q = if (0 : Int) = 1 then _ else _
    rw [if_neg (by decide)]
    exact z7 q hq
  have := c_readLoop (d := d) (Q := Q) hp hT 70 0 (-1) (P0T V) X1 (Nat.le_refl _) (ptr_px hp P1 F2) (C1.px hp F2) (P0T_B hB) hL (fun kk pl z H' hF => he kk pl z H' (G.tr hF)) (fun n P' z H' hF => ho n P' z H' (G.tr hF))
  exact this
end PR
