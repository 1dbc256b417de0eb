/-! THE BOAT'S TEXT: all statements; the class -/
abbrev TxO : Type := Except (Int × Int) (Nat × Hp)
def txO (V : Hp) : Nat → Nat → Int → Hp → TxO
  | 0, a, _, P => if bz V (skE V a) = -1 then .ok (70, P) else .error (5, (skE V a : Int))
  | f + 1, a, j, P => if bz V (skE V a) = -1 then .ok (70 - (f + 1), P) else match stS V (skE V a) j P with
    | .error x => .error x
    | .ok (a', j', P') => txO V f a' j' P'
theorem numO_rg {V : Hp} {a : Nat} {j lo hi : Int} {e : Nat} {v : Int} (h : numO V a j lo hi = .ok (e, v)) : lo ≤ v ∧ v ≤ hi := by
  unfold numO at h
  split at h
  · split at h
    · cases h
    · split at h
      · next c3 =>
        have h := Except.ok.inj h
        obtain ⟨h1, h2⟩ := Prod.mk.inj h
        rw [← h2]
        exact c3
      · cases h
  · cases h
theorem sigO_rg {V : Hp} {a : Nat} {j most : Int} (hm : 0 ≤ most) {e : Nat} {v : Int} (h : sigO V a j most = .ok (e, v)) : -most ≤ v ∧ v ≤ most := by
  unfold sigO at h
  split at h
  · split at h
    · cases h
    · next e2 v2 eo =>
      have r := numO_rg eo
      split at h
      · have h := Except.ok.inj h
        obtain ⟨h1, h2⟩ := Prod.mk.inj h
        rw [← h2]
        omega
      · cases h
  · split at h
    · cases h
    · next e2 v2 eo =>
      have r := numO_rg eo
      split at h
      · have h := Except.ok.inj h
        obtain ⟨h1, h2⟩ := Prod.mk.inj h
        rw [← h2]
        omega
      · cases h
theorem ok_in {α β : Type} {a a' : α} {x : β} (h : (Except.ok a : Except β α) = Except.ok a') : a = a' := Except.ok.inj h
theorem seatO_B {V : Hp} {a : Nat} {j : Int} {P : Hp} (hB : TxB P) (hn : sTx P < 12) {e : Nat} {P' : Hp} (h : seatO V a j P = .ok (e, P')) : TxB P' := by
  unfold seatO at h
  split at h
  · cases h
  · next e1 v eo =>
    split at h
    · split at h
      · cases h
      · split at h
        · cases h
        · next e3 w eo3 =>
          have h := (Prod.mk.inj (Except.ok.inj h)).2
          rw [← h]
          exact seatP_B hB hn (numO_rg eo) (numO_rg eo3)
    · cases h
theorem rowO_B {V : Hp} {a : Nat} {j : Int} {P : Hp} (hB : TxB P) (hn : rTx P < 12) {e : Nat} {P' : Hp} (h : rowO V a j P = .ok (e, P')) : TxB P' := by
  unfold rowO at h
  split at h
  · cases h
  · split at h
    · cases h
    · split at h
      · cases h
      · next e3 v eo3 =>
        split at h
        · cases h
        · split at h
          · cases h
          · next e5 w eo5 =>
            have h := (Prod.mk.inj (Except.ok.inj h)).2
            rw [← h]
            exact rowP_B hB hn (numO_rg eo3) (numO_rg eo5)
theorem payO_B {V : Hp} {a : Nat} {j : Int} {P : Hp} (hB : TxB P) (hn : yTx P < 12) {e : Nat} {P' : Hp} (h : payO V a j P = .ok (e, P')) : TxB P' := by
  unfold payO at h
  split at h
  · cases h
  · next e1 v eo =>
    split at h
    · cases h
    · split at h
      · cases h
      · next e3 w eo3 =>
        have h := (Prod.mk.inj (Except.ok.inj h)).2
        rw [← h]
        exact payP_B hB hn (numO_rg eo) (numO_rg eo3)
theorem wantO_B {V : Hp} {a : Nat} {j : Int} {P : Hp} (hB : TxB P) {e : Nat} {P' : Hp} (h : wantO V a j P = .ok (e, P')) : TxB P' := by
  unfold wantO at h
  split at h
  · cases h
  · next e1 q eo =>
    split at h
    · cases h
    · split at h
      · cases h
      · next e3 w eo3 =>
        have h := (Prod.mk.inj (Except.ok.inj h)).2
        rw [← h]
        obtain ⟨q, rfl⟩ := Int.eq_ofNat_of_zero_le (numO_rg eo).1
        exact wantP_B hB (sigO_rg (by decide) eo3)
theorem fixO_B {V : Hp} {a : Nat} {j : Int} {P : Hp} (hB : TxB P) {e : Nat} {P' : Hp} (h : fixO V a j P = .ok (e, P')) : TxB P' := by
  unfold fixO at h
  split at h
  · cases h
  · split at h
    · cases h
    · split at h
      · have h := (Prod.mk.inj (Except.ok.inj h)).2
        rw [← h]
        exact fixP_B hB (by decide)
      · split at h
        · cases h
        · have h := (Prod.mk.inj (Except.ok.inj h)).2
          rw [← h]
          exact fixP_B hB (by decide)
theorem runO_B {V : Hp} {a : Nat} {j : Int} {P : Hp} (hB : TxB P) (hn : uTx P < 8) {e : Nat} {P' : Hp} (h : runO V a j P = .ok (e, P')) : TxB P' := by
  unfold runO at h
  split at h
  · cases h
  · split at h
    · cases h
    · split at h
      · cases h
      · next e3 v eo3 =>
        split at h
        · cases h
        · split at h
          · cases h
          · next e5 w eo5 =>
            have h := (Prod.mk.inj (Except.ok.inj h)).2
            rw [← h]
            exact runP_B (sidP_B hB) (by rw [sidP_t.2.2.1]; exact hn) (numO_rg eo3) (sigO_rg (by decide) eo5)
theorem eachO_B {V : Hp} {a : Nat} {j : Int} {P : Hp} (hB : TxB P) {e : Nat} {P' : Hp} (h : eachO V a j P = .ok (e, P')) : TxB P' := by
  unfold eachO at h
  split at h
  · cases h
  · next e1 v eo =>
    have h := (Prod.mk.inj (Except.ok.inj h)).2
    rw [← h]
    have := numO_rg eo
    exact each_B hB ⟨Int.le_trans (by decide) this.1, this.2⟩
theorem nearO_B {V : Hp} {a : Nat} {j : Int} {P : Hp} (hB : TxB P) {e : Nat} {P' : Hp} (h : nearO V a j P = .ok (e, P')) : TxB P' := by
  unfold nearO at h
  split at h
  · cases h
  · next e1 v eo =>
    have h := (Prod.mk.inj (Except.ok.inj h)).2
    rw [← h]
    exact near_B hB (numO_rg eo)
theorem stO_B {V : Hp} {a : Nat} {j : Int} {P : Hp} (hB : TxB P) {e : Nat} {P' : Hp} (h : stO V a j P = .ok (e, P')) : TxB P' := by
  have b1 := hB.1.2
  have b2 := hB.2.1.2
  have b3 := hB.2.2.1.2
  have b4 := hB.2.2.2.1.2
  unfold stO at h
  split at h
  · split at h
    · cases h
    · next c => exact seatO_B hB (Nat.lt_of_le_of_ne b1 c) h
  · split at h
    · split at h
      · cases h
      · next c => exact rowO_B hB (Nat.lt_of_le_of_ne b2 c) h
    · split at h
      · exact eachO_B hB h
      · split at h
        · exact fixO_B hB h
        · split at h
          · exact wantO_B hB h
          · split at h
            · exact nearO_B hB h
            · split at h
              · split at h
                · cases h
                · next c => exact runO_B hB (Nat.lt_of_le_of_ne b3 c) h
              · split at h
                · split at h
                  · cases h
                  · next c => exact payO_B hB (Nat.lt_of_le_of_ne b4 c) h
                · cases h
theorem stS_B {V : Hp} {a : Nat} {j : Int} {P : Hp} (hB : TxB P) {a' : Nat} {j' : Int} {P' : Hp} (h : stS V a j P = .ok (a', j', P')) : TxB P' := by
  unfold stS at h
  split at h
  · cases h
  · next e P2 eo =>
    split at h
    · have h := (Prod.mk.inj (Prod.mk.inj (Except.ok.inj h)).2).2
      rw [← h]
      exact stO_B hB eo
    · cases h
theorem stS_er {V : Hp} {a : Nat} {j : Int} {P : Hp} {kk pl : Int} (h : stS V a j P = .error (kk, pl)) : kk ≠ 0 := by
  unfold stS at h
  split at h
  · next x eo =>
    have h := Except.error.inj h
    subst h
    exact stO_er eo
  · split at h
    · cases h
    · have h := (Prod.mk.inj (Except.error.inj h)).1
      rw [← h]; decide
theorem txO_er {V : Hp} : ∀ (f a : Nat) (j : Int) (P : Hp) {kk pl : Int}, txO V f a j P = .error (kk, pl) → kk ≠ 0
  | 0, a, j, P, kk, pl, h => by
    unfold txO at h
    split at h
    · cases h
    · have h := (Prod.mk.inj (Except.error.inj h)).1
      rw [← h]; decide
  | f + 1, a, j, P, kk, pl, h => by
    unfold txO at h
    split at h
    · cases h
    · split at h
      · next x eo =>
        have h := Except.error.inj h
        subst h
        exact stS_er eo
      · exact txO_er f _ _ _ h
theorem txO_B {V : Hp} : ∀ (f a : Nat) (j : Int) (P : Hp) {n : Nat} {P' : Hp}, TxB P → txO V f a j P = .ok (n, P') → TxB P'
  | 0, a, j, P, n, P', hB, h => by
    unfold txO at h
    split at h
    · have h := (Prod.mk.inj (Except.ok.inj h)).2
      rw [← h]; exact hB
    · cases h
  | f + 1, a, j, P, n, P', hB, h => by
    unfold txO at h
    split at h
    · have h := (Prod.mk.inj (Except.ok.inj h)).2
      rw [← h]; exact hB
    · split at h
      · cases h
      · next x a1 j1 P1 eo => exact txO_B f _ _ _ (stS_B hB eo) h
section PQ
variable {d : Nat} {V P H : Hp} {p : Int} {Q : AV → Hp → Prop}
set_option maxRecDepth 20000 in
theorem c_readLoop (hp : p = 5 ∨ p = 25) (hT : TapeR V) : ∀ (f : Nat) (a : Nat) (j : Int) (P H : Hp), f ≤ 70 → Ptr H → CRd V H a j → TxB P → PlT P H p →
    (∀ kk pl, txO V f a j P = .error (kk, pl) → ∀ H', Fx (sCX p) H H' → H' 2 6 = kk → H' 2 7 = pl → Q (vi (-1)) H') →
    (∀ n P', txO V f a j P = .ok (n, P') → ∀ H', Fx (sCX p) H H' → H' 2 6 = 0 → H' 2 7 = -1 → PlT P' H' p → Q (vi n) H') →
    R (d + 7) BT_read (blk BT_read 1) [va 2, va p, vi ((70 - f : Nat) : Int)] [] H Q := by
  intro f
  induction f with
  | zero =>
    intro a j P H _ hP hC hB hL he ho
    have hn := hC.2.2.2.2.2
    have f1 : Fx (sCX p) H (hs H 2 2 (skE V a)) := (Fx.rf.hs (S := sLX) (c := 2) (j := 2) rfl).up (sLX_cx p)
    have hC1 := hC.mv (skE_rng hn).2
    have e0 : ((70 - 0 : Nat) : Int) = 70 := rfl
    rw [e0, e_BT_read_1]
    by_cases c : bz V (skE V a) = -1
    · have := ho 70 P (by unfold txO; rw [if_pos c]) _ f1 hC1.2.2.2.1 hC1.2.2.2.2.1 (hL.lx hp (Fx.rf.hs (c := 2) (j := 2) rfl))
      simp only [k_BT_read_1, rr, sh, Nat.reduceLT, Nat.reduceMul, Int.reduceToNat, Int.reduceGT, Int.reduceGE, Int.reduceNe, true_and, and_true, true_or, or_true, false_or, or_false, and_self, or_self, if_true, if_false, reduceIte, not_true_eq_false, not_false_eq_true, Int.reduceEq, Int.reduceNe, Int.reduceLT, Int.reduceLE, Int.reduceAdd, Int.reduceSub, Int.reduceMul, Int.reduceNeg, Nat.reduceAdd, Nat.reduceLeDiff, Nat.reduceEqDiff, ne_eq, List.length_cons, List.length_nil, Nat.reduceSub, q_next hT hC.1 hC.2.1 hn, c]
      exact this
    · have b6 : hs (hs (hs H 2 2 (skE V a)) 2 6 5) 2 7 (skE V a) 2 6 = 5 := (hs2 (by decide)).trans hs_same
      have b2 : hs H 2 2 (skE V a) 2 2 = skE V a := hs_same
      have := he 5 (skE V a) (by unfold txO; rw [if_neg c]) _ ((f1.hs (c := 2) (j := 6) (sLX_cx p 2 6 rfl)).hs (c := 2) (j := 7) (sLX_cx p 2 7 rfl)) b6 hs_same
      simp only [k_BT_read_1, e_BT_read_2, k_BT_read_2, e_BT_read_4, k_BT_read_4, rr, sh, Nat.reduceLT, Nat.reduceMul, Int.reduceToNat, Int.reduceGT, Int.reduceGE, Int.reduceNe, true_and, and_true, true_or, or_true, false_or, or_false, and_self, or_self, if_true, if_false, reduceIte, not_true_eq_false, not_false_eq_true, Int.reduceEq, Int.reduceNe, Int.reduceLT, Int.reduceLE, Int.reduceAdd, Int.reduceSub, Int.reduceMul, Int.reduceNeg, Nat.reduceAdd, Nat.reduceLeDiff, Nat.reduceEqDiff, ne_eq, List.length_cons, List.length_nil, Nat.reduceSub, q_next hT hC.1 hC.2.1 hn, c, b2, q_failC, b6]
      exact this
  | succ f ih =>
    intro a j P H hf hP hC hB hL he ho
    have hn := hC.2.2.2.2.2
    have f0 : Fx sLX H (hs H 2 2 (skE V a)) := Fx.rf.hs (c := 2) (j := 2) rfl
    have f1 : Fx (sCX p) H (hs H 2 2 (skE V a)) := f0.up (sLX_cx p)
    have hC1 := hC.mv (skE_rng hn).2
    have c70 : ¬ (70 : Int) < ((70 - (f + 1) : Nat) : Int) := by clear ih he ho; omega
    have n70 : ¬ ((70 - (f + 1) : Nat) : Int) = 70 := by clear ih he ho; omega
    have kw : w32 (((70 - (f + 1) : Nat) : Int) + 1) = ((70 - f : Nat) : Int) := by
      have := w32_s (n := 70 - (f + 1)) (by clear ih he ho; omega)
      rw [this]
      have e : 70 - (f + 1) + 1 = 70 - f := by clear ih he ho this; omega
      rw [e]
    rw [e_BT_read_1]
    by_cases c : bz V (skE V a) = -1
    · have := ho (70 - (f + 1)) P (by unfold txO; rw [if_pos c]) _ f1 hC1.2.2.2.1 hC1.2.2.2.2.1 (hL.lx hp f0)
      simp only [k_BT_read_1, rr, sh, Nat.reduceLT, Nat.reduceMul, Int.reduceToNat, Int.reduceGT, Int.reduceGE, Int.reduceNe, true_and, and_true, true_or, or_true, false_or, or_false, and_self, or_self, if_true, if_false, reduceIte, not_true_eq_false, not_false_eq_true, Int.reduceEq, Int.reduceNe, Int.reduceLT, Int.reduceLE, Int.reduceAdd, Int.reduceSub, Int.reduceMul, Int.reduceNeg, Nat.reduceAdd, Nat.reduceLeDiff, Nat.reduceEqDiff, ne_eq, List.length_cons, List.length_nil, Nat.reduceSub, q_next hT hC.1 hC.2.1 hn, c, c70]
      exact this
    · have hP1 := ptr_cx hp hP f1
      simp only [k_BT_read_1, e_BT_read_2, k_BT_read_2, e_BT_read_3, k_BT_read_3, rr, sh, Nat.reduceLT, Nat.reduceMul, Int.reduceToNat, Int.reduceGT, Int.reduceGE, Int.reduceNe, true_and, and_true, true_or, or_true, false_or, or_false, and_self, or_self, if_true, if_false, reduceIte, not_true_eq_false, not_false_eq_true, Int.reduceEq, Int.reduceNe, Int.reduceLT, Int.reduceLE, Int.reduceAdd, Int.reduceSub, Int.reduceMul, Int.reduceNeg, Nat.reduceAdd, Nat.reduceLeDiff, Nat.reduceEqDiff, ne_eq, List.length_cons, List.length_nil, Nat.reduceSub, q_next hT hC.1 hC.2.1 hn, c, c70, n70]
      have er : ∀ kk pl, stS V (skE V a) j P = .error (kk, pl) → ∀ H', Fx (sCX p) H H' → H' 2 6 = kk → H' 2 7 = pl → Q (vi (-1)) H' := fun kk pl z => he kk pl (by unfold txO; rw [if_neg c, z])
      refine c_statement (d := d) hp hP1 hT hC1 hB (hL.lx hp f0) (fun kk pl z H' hF q6 q7 => ?_) (fun e P' z H' hF hC' hL' => ?_)
      · have k1 : ¬ H' 2 6 = 0 := by rw [q6]; exact stO_er z
        have := er kk pl (by unfold stS; rw [z]; try rfl) H' (f1.tr hF) q6 q7
        simp only [e_BT_read_4, k_BT_read_4, rr, sh, Nat.reduceLT, Nat.reduceMul, Int.reduceToNat, Int.reduceGT, Int.reduceGE, Int.reduceNe, true_and, and_true, true_or, or_true, false_or, or_false, and_self, or_self, if_true, if_false, reduceIte, not_true_eq_false, not_false_eq_true, Int.reduceEq, Int.reduceNe, Int.reduceLT, Int.reduceLE, Int.reduceAdd, Int.reduceSub, Int.reduceMul, Int.reduceNeg, Nat.reduceAdd, Nat.reduceLeDiff, Nat.reduceEqDiff, ne_eq, List.length_cons, List.length_nil, Nat.reduceSub, k1]
        exact this
      · have en := hC'.2.2.2.2.2
        by_cases c2 : bz V (skE V e) = 59
        · have lt := bz_in' c2 (by decide)
          have zS : stS V (skE V a) j P = .ok (skE V e + 1, (e : Int), P') := by unfold stS; rw [z]; exact if_pos c2
          have C2 := (hC'.mv (skE_rng en).2).mv (b := skE V e + 1) lt
          have F2 : Fx sLX H' (hs (hs H' 2 2 (skE V e)) 2 2 ((skE V e + 1 : Nat) : Int)) := (Fx.rf.hs (c := 2) (j := 2) rfl).hs (c := 2) (j := 2) rfl
          have G2 : Fx (sCX p) H (hs (hs H' 2 2 (skE V e)) 2 2 ((skE V e + 1 : Nat) : Int)) := (f1.tr hF).tr (F2.up (sLX_cx p))
          have := ih (skE V e + 1) e P' _ (Nat.le_of_succ_le hf) (ptr_cx hp hP G2) C2 (stO_B hB z) (hL'.lx hp F2) (fun kk pl y H2 hF2 => he kk pl (by unfold txO; rw [if_neg c, zS]; exact y) H2 (G2.tr hF2)) (fun n P2 y H2 hF2 => ho n P2 (by unfold txO; rw [if_neg c, zS]; exact y) H2 (G2.tr hF2))
          have k1 := C2.2.2.2.1
          simp only [e_BT_read_4, k_BT_read_4, e_BT_read_5, k_BT_read_5, rr, sh, Nat.reduceLT, Nat.reduceMul, Int.reduceToNat, Int.reduceGT, Int.reduceGE, Int.reduceNe, true_and, and_true, true_or, or_true, false_or, or_false, and_self, or_self, if_true, if_false, reduceIte, not_true_eq_false, not_false_eq_true, Int.reduceEq, Int.reduceNe, Int.reduceLT, Int.reduceLE, Int.reduceAdd, Int.reduceSub, Int.reduceMul, Int.reduceNeg, Nat.reduceAdd, Nat.reduceLeDiff, Nat.reduceEqDiff, ne_eq, List.length_cons, List.length_nil, Nat.reduceSub, q_takeSignC hT hC'.1 hC'.2.1 en, c2, k1, kw]
          exact this
        · have b6 : hs (hs (hs H' 2 2 (skE V e)) 2 6 1) 2 7 (skE V e) 2 6 = 1 := (hs2 (by decide)).trans hs_same
          have F2 : Fx sLX H' (hs (hs (hs H' 2 2 (skE V e)) 2 6 1) 2 7 (skE V e)) := ((Fx.rf.hs (c := 2) (j := 2) rfl).hs (c := 2) (j := 6) rfl).hs (c := 2) (j := 7) rfl
          have := er 1 (skE V e) (by unfold stS; rw [z]; exact if_neg c2) _ ((f1.tr hF).tr (F2.up (sLX_cx p))) b6 hs_same
          simp only [e_BT_read_4, k_BT_read_4, rr, sh, Nat.reduceLT, Nat.reduceMul, Int.reduceToNat, Int.reduceGT, Int.reduceGE, Int.reduceNe, true_and, and_true, true_or, or_true, false_or, or_false, and_self, or_self, if_true, if_false, reduceIte, not_true_eq_false, not_false_eq_true, Int.reduceEq, Int.reduceNe, Int.reduceLT, Int.reduceLE, Int.reduceAdd, Int.reduceSub, Int.reduceMul, Int.reduceNeg, Nat.reduceAdd, Nat.reduceLeDiff, Nat.reduceEqDiff, ne_eq, List.length_cons, List.length_nil, Nat.reduceSub, q_takeSignC hT hC'.1 hC'.2.1 en, c2, b6]
          exact this
end PQ
