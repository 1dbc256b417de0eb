/-! QUESTIONS: the reference's value at a stroke -/
section QV7
variable {d : Nat} {V H : Hp} {Q : AV → Hp → Prop} {s : List Int} {x i : Int}
theorem sSM_scr (a b : Int) (h : sSM a b = true) : scr a b = true := by
  unfold sSM at h
  simp only [Bool.or_eq_true, Bool.and_eq_true, decide_eq_true_eq] at h
  rcases h with rfl | ⟨rfl, rfl⟩ <;> rfl
theorem q_rowersM (hM : Inm V) (hH : Vw V H) : CC d MO_rowers [va 71] H Q = Q (vi (nR V)) H := by
  refine CC_dt fun Q hQ => ?_
  have e : H 91 5 = nR V := (hH 91 5 rfl).trans hM.boat.r.1
  have p : H 71 29 = 91 := (hH 71 29 rfl).trans (hM.ptr (71, 29, 91) (by decide +kernel))
  simp only [en_MO_rowers, e_MO_rowers_0, k_MO_rowers_0, rr, sh, Nat.reduceLT, Nat.reduceMul, Int.reduceToNat, Int.reduceGT, Int.reduceGE, Int.reduceNe, true_and, and_true, true_or, or_true, false_or, or_false, and_self, or_self, if_true, if_false, reduceIte, not_true_eq_false, not_false_eq_true, Int.reduceEq, Int.reduceNe, Int.reduceLT, Int.reduceLE, Int.reduceAdd, Int.reduceSub, Int.reduceMul, Int.reduceNeg, Nat.reduceAdd, Nat.reduceLeDiff, Nat.reduceEqDiff, ne_eq, List.length_cons, List.length_nil, Nat.reduceSub, p, e]
  exact hQ
set_option maxRecDepth 20000 in
theorem q_qOf0 (hM : Inm V) (hH : Vw V H) (h0 : 0 ≤ i) (h9 : i ≤ 9999) : CC (d + 3) MO_qOf [va 71, vi 0, vl x, vi i] H (fun r H1 => ∃ v, r = vl v ∧ qcl v = qSw V i x ∧ H1 = H) := by
  have e49 : H 71 49 = (sdV V : Nat) := (hH 71 49 rfl).trans hM.crew.2.1.1
  by_cases c : 0 ≤ x ∧ x ≤ 3
  · obtain ⟨n, rfl⟩ := Int.eq_ofNat_of_zero_le c.1
    have hn : n < 4 := by omega
    have w1 : w32 (n : Int) = n := w32_id (by omega) (by omega)
    have hs' := fun {Q} => q_swingBy (d := d) (Q := Q) hM hH hn (sd_lt hM) h0 (Int.le_trans h9 (by decide))
    simp only [en_MO_qOf, e_MO_qOf_0, k_MO_qOf_0, e_MO_qOf_1, k_MO_qOf_1, e_MO_qOf_2, k_MO_qOf_2, e_MO_qOf_3, k_MO_qOf_3, e_MO_qOf_4, k_MO_qOf_4, e_MO_qOf_5, k_MO_qOf_5, e_MO_qOf_6, k_MO_qOf_6, rr, sh, Nat.reduceLT, Nat.reduceMul, Int.reduceToNat, Int.reduceGT, Int.reduceGE, Int.reduceNe, true_and, and_true, true_or, or_true, false_or, or_false, and_self, or_self, if_true, if_false, reduceIte, not_true_eq_false, not_false_eq_true, Int.reduceEq, Int.reduceNe, Int.reduceLT, Int.reduceLE, Int.reduceAdd, Int.reduceSub, Int.reduceMul, Int.reduceNeg, Nat.reduceAdd, Nat.reduceLeDiff, Nat.reduceEqDiff, ne_eq, List.length_cons, List.length_nil, Nat.reduceSub, q_isIn, c, w1, e49, hs']
    refine ⟨_, rfl, ?_⟩
    unfold qSw
    rw [if_pos (by omega), Int.toNat_natCast]
  · simp only [en_MO_qOf, e_MO_qOf_0, k_MO_qOf_0, e_MO_qOf_1, k_MO_qOf_1, e_MO_qOf_2, k_MO_qOf_2, e_MO_qOf_3, k_MO_qOf_3, e_MO_qOf_4, k_MO_qOf_4, e_MO_qOf_5, k_MO_qOf_5, e_MO_qOf_6, k_MO_qOf_6, rr, sh, Nat.reduceLT, Nat.reduceMul, Int.reduceToNat, Int.reduceGT, Int.reduceGE, Int.reduceNe, true_and, and_true, true_or, or_true, false_or, or_false, and_self, or_self, if_true, if_false, reduceIte, not_true_eq_false, not_false_eq_true, Int.reduceEq, Int.reduceNe, Int.reduceLT, Int.reduceLE, Int.reduceAdd, Int.reduceSub, Int.reduceMul, Int.reduceNeg, Nat.reduceAdd, Nat.reduceLeDiff, Nat.reduceEqDiff, ne_eq, List.length_cons, List.length_nil, Nat.reduceSub, q_isIn, c]
    refine ⟨_, rfl, ?_⟩
    unfold qSw
    rw [if_neg (by omega)]
    rfl
set_option maxRecDepth 20000 in
theorem q_qOf1 (hM : Inm V) (hH : Vw V H) (h0 : 0 ≤ i) (h9 : i ≤ 9999) : CC (d + 3) MO_qOf [va 71, vi 1, vl x, vi i] H (fun r H1 => ∃ v, r = vl v ∧ qcl v = qFr V i x ∧ H1 = H) := by
  have hr := hM.boat.r
  have w2 : w32 ((nR V : Int) - 1) = (nR V : Int) - 1 := w32_id (by omega) (by omega)
  by_cases c : 0 ≤ x ∧ x ≤ (nR V : Int) - 1
  · have c2 : 0 ≤ x ∧ x < nR V := by omega
    have w1 : w32 x = x := w32_id (by clear w2; omega) (by clear w2; omega)
    have hs' := fun {Q} => q_strengthAtM (d := d + 2) (Q := Q) hM hH c2 h0 (Int.le_trans h9 (by decide))
    simp only [en_MO_qOf, e_MO_qOf_0, k_MO_qOf_0, e_MO_qOf_1, k_MO_qOf_1, e_MO_qOf_2, k_MO_qOf_2, e_MO_qOf_3, k_MO_qOf_3, e_MO_qOf_4, k_MO_qOf_4, e_MO_qOf_5, k_MO_qOf_5, e_MO_qOf_6, k_MO_qOf_6, rr, sh, Nat.reduceLT, Nat.reduceMul, Int.reduceToNat, Int.reduceGT, Int.reduceGE, Int.reduceNe, true_and, and_true, true_or, or_true, false_or, or_false, and_self, or_self, if_true, if_false, reduceIte, not_true_eq_false, not_false_eq_true, Int.reduceEq, Int.reduceNe, Int.reduceLT, Int.reduceLE, Int.reduceAdd, Int.reduceSub, Int.reduceMul, Int.reduceNeg, Nat.reduceAdd, Nat.reduceLeDiff, Nat.reduceEqDiff, ne_eq, List.length_cons, List.length_nil, Nat.reduceSub, q_isIn, q_rowersM hM hH, w2, c, w1, hs']
    refine ⟨_, rfl, ?_⟩
    unfold qFr
    rw [if_pos c2]
    exact qcl_id (stg_bd hM.boat c2 h0)
  · simp only [en_MO_qOf, e_MO_qOf_0, k_MO_qOf_0, e_MO_qOf_1, k_MO_qOf_1, e_MO_qOf_2, k_MO_qOf_2, e_MO_qOf_3, k_MO_qOf_3, e_MO_qOf_4, k_MO_qOf_4, e_MO_qOf_5, k_MO_qOf_5, e_MO_qOf_6, k_MO_qOf_6, rr, sh, Nat.reduceLT, Nat.reduceMul, Int.reduceToNat, Int.reduceGT, Int.reduceGE, Int.reduceNe, true_and, and_true, true_or, or_true, false_or, or_false, and_self, or_self, if_true, if_false, reduceIte, not_true_eq_false, not_false_eq_true, Int.reduceEq, Int.reduceNe, Int.reduceLT, Int.reduceLE, Int.reduceAdd, Int.reduceSub, Int.reduceMul, Int.reduceNeg, Nat.reduceAdd, Nat.reduceLeDiff, Nat.reduceEqDiff, ne_eq, List.length_cons, List.length_nil, Nat.reduceSub, q_isIn, q_rowersM hM hH, w2, c]
    refine ⟨_, rfl, ?_⟩
    unfold qFr
    rw [if_neg (by clear w2; omega)]
    rfl
theorem fx_pshM {v : Int} {n : Nat} {m : Int} : Fx sSM H (hs (hs H 138 n v) 71 94 m) := (Fx.rf.hs (c := 138) rfl).hs (c := 71) (j := 94) rfl
theorem fx_popM {m : Int} : Fx sSM H (hs H 71 94 m) := Fx.rf.hs (c := 71) (j := 94) rfl
theorem fx_setM {n : Nat} {v : Int} : Fx sSM H (hs H 138 n v) := Fx.rf.hs (c := 138) rfl
theorem sm_one (h : QSM H (x :: s)) (hl : s.length < 1000) : H 71 94 = ((s.length + 1 : Nat) : Int) ∧ H 138 (s.length : Nat) = x ∧ (0 ≤ (s.length : Int) ∧ (s.length : Int) < 1700) ∧ w32 (((s.length + 1 : Nat) : Int) - 1) = (s.length : Nat) := by
  obtain ⟨h1, h2⟩ := h.top
  exact ⟨h1, h2, ix_n (b := 1700) (by omega), w_sub (a := s.length + 1) (b := 1) (by omega) (by omega)⟩
/-- behind a code -/
def tM7 (d : Nat) (Q : AV → Hp → Prop) (i : Int) (k : Int) (v : Int) (H : Hp) : Prop := R (d + 6) MO_qTold (blk MO_qTold 7) [va 71, vi i, vi k, vi v] [] H Q
set_option maxRecDepth 20000 in
/-- a code of the reference is told -/
theorem c_toldM (hM : Inm V) (hH : Vw V H) (h0 : 0 ≤ i) (h9 : i ≤ 9999) {e : Int} {cs : List Int} {k : Nat} {y : AV} (hy : y = vu ∨ ∃ v, y = vi v) (hcl : cs.length ≤ 1600) (hk : k < cs.length) (hK : KoM H cs) (hek : cs.getD k 0 = e) (hs' : QSM H s) (he : okE e s) (hl : (qst V i e s).length ≤ 60) (hb : BdS s)
    (hQ : ∀ H', Fx sSM H H' → QSM H' (qst V i e s) → tM7 d Q i k (rco e) H') : R (d + 6) MO_qTold (blk MO_qTold 1) [va 71, vi i, vi k, y] [] H Q := by
  have p87 : H 71 87 = 136 := (hH 71 87 rfl).trans (hM.ptr (71, 87, 136) (by decide +kernel))
  have p93 : H 71 93 = 138 := (hH 71 93 rfl).trans (hM.ptr (71, 93, 138) (by decide +kernel))
  have u := hK.1
  have v := hK.2 k hk
  rw [hek] at v
  have c1 : ¬ (cs.length : Int) ≤ (k : Int) := il_n hk
  have j1 : 0 ≤ (k : Int) ∧ (k : Int) < 1700 := ix_n (b := 1700) (by omega)
  have hG : Inm V := hM
  obtain ⟨e1, e2, e3, e4, e5, e6, e7, e8, ea, eb9, eb2⟩ := he
  have leaf : ∀ z : Int, qst V i e s = z :: s → s.length < 1700 ∧ tM7 d Q i k (rco e) (hs (hs H 138 (s.length : Nat) z) 71 94 ((s.length + 1 : Nat) : Int)) := fun z hz => by
    rw [hz, List.length_cons] at hl
    exact ⟨by omega, hQ _ fx_pshM (by rw [hz]; exact hs'.push)⟩
  rw [e_MO_qTold_1]
  by_cases c0 : 0 ≤ e
  · have er : rco e = 1000 + e := if_pos c0
    have a0 : qAr e = 0 := if_pos (Or.inl c0)
    obtain ⟨l1, q1⟩ := leaf e (by
      have : qLf V i e = e := if_pos c0
      unfold qst
      rw [a0, if_pos rfl, this])
    rw [er] at v q1
    have d1 : ¬ 1000 + e < 1000 := by omega
    have w1 : w32 (1000 + e - 1000) = e := by rw [w32_id (by omega) (by omega)]; omega
    have hp := fun {Q} => q_putsM (d := d + 5) (Q := Q) (x := e) p93 hs' l1
    unfold tM7 at q1
    rcases hy with rfl | ⟨y0, rfl⟩
    all_goals
      simp only [k_MO_qTold_1, rr, sh, Nat.reduceLT, Nat.reduceMul, Int.reduceToNat, Int.reduceGT, Int.reduceGE, Int.reduceNe, true_and, and_true, true_or, or_true, false_or, or_false, and_self, or_self, if_true, if_false, reduceIte, not_true_eq_false, not_false_eq_true, Int.reduceEq, Int.reduceNe, Int.reduceLT, Int.reduceLE, Int.reduceAdd, Int.reduceSub, Int.reduceMul, Int.reduceNeg, Nat.reduceAdd, Nat.reduceLeDiff, Nat.reduceEqDiff, ne_eq, List.length_cons, List.length_nil, Nat.reduceSub, u, c1, p87, j1, v, d1, w1, hp]
      exact q1
  by_cases c10 : e = -10
  · subst c10
    obtain ⟨l1, q1⟩ := leaf 1 rfl
    have v : H 136 k = 13 := v
    have q1 : tM7 d Q i k 13 _ := q1
    have hp := fun {Q} => q_putsM (d := d + 5) (Q := Q) (x := 1) p93 hs' l1
    unfold tM7 at q1
    rcases hy with rfl | ⟨y0, rfl⟩
    all_goals
      simp only [k_MO_qTold_1, e_MO_qTold_2, k_MO_qTold_2, e_MO_qTold_3, k_MO_qTold_3, e_MO_qTold_4, k_MO_qTold_4, rr, sh, Nat.reduceLT, Nat.reduceMul, Int.reduceToNat, Int.reduceGT, Int.reduceGE, Int.reduceNe, true_and, and_true, true_or, or_true, false_or, or_false, and_self, or_self, if_true, if_false, reduceIte, not_true_eq_false, not_false_eq_true, Int.reduceEq, Int.reduceNe, Int.reduceLT, Int.reduceLE, Int.reduceAdd, Int.reduceSub, Int.reduceMul, Int.reduceNeg, Nat.reduceAdd, Nat.reduceLeDiff, Nat.reduceEqDiff, ne_eq, List.length_cons, List.length_nil, Nat.reduceSub, u, c1, p87, j1, v, hp]
      exact q1
  by_cases c11 : e = -11
  · subst c11
    obtain ⟨l1, q1⟩ := leaf i rfl
    have v : H 136 k = 40 := v
    have q1 : tM7 d Q i k 40 _ := q1
    have w0 : w32 0 = 0 := rfl
    have ei : qcl i = i := qcl_id ⟨by omega, by omega⟩
    have hp := fun {Q} => q_putsM (d := d + 5) (Q := Q) (x := i) p93 hs' l1
    unfold tM7 at q1
    rcases hy with rfl | ⟨y0, rfl⟩
    all_goals
      simp only [k_MO_qTold_1, e_MO_qTold_2, k_MO_qTold_2, e_MO_qTold_3, k_MO_qTold_3, en_MO_qPartOf, e_MO_qPartOf_0, k_MO_qPartOf_0, e_MO_qPartOf_1, k_MO_qPartOf_1, e_MO_qPartOf_2, k_MO_qPartOf_2, e_MO_qPartOf_3, k_MO_qPartOf_3, rr, sh, Nat.reduceLT, Nat.reduceMul, Int.reduceToNat, Int.reduceGT, Int.reduceGE, Int.reduceNe, true_and, and_true, true_or, or_true, false_or, or_false, and_self, or_self, if_true, if_false, reduceIte, not_true_eq_false, not_false_eq_true, Int.reduceEq, Int.reduceNe, Int.reduceLT, Int.reduceLE, Int.reduceAdd, Int.reduceSub, Int.reduceMul, Int.reduceNeg, Nat.reduceAdd, Nat.reduceLeDiff, Nat.reduceEqDiff, ne_eq, List.length_cons, List.length_nil, Nat.reduceSub, u, c1, p87, j1, v, w0, q_clipM, ei, hp]
      exact q1
  by_cases c12 : e = -12
  · subst c12
    obtain ⟨l1, q1⟩ := leaf (qOf V i) rfl
    have v : H 136 k = 41 := v
    have q1 : tM7 d Q i k 41 _ := q1
    have w0 : w32 1 = 1 := rfl
    have ei : qcl (offV V (sdV V) i) = qOf V i := rfl
    have hp := fun {Q} => q_putsM (d := d + 5) (Q := Q) (x := qOf V i) p93 hs' l1
    have ho := fun {Q} => q_offAtM (d := d) (Q := Q) hM hH h0 h9
    unfold tM7 at q1
    rcases hy with rfl | ⟨y0, rfl⟩
    all_goals
      simp only [k_MO_qTold_1, e_MO_qTold_2, k_MO_qTold_2, e_MO_qTold_3, k_MO_qTold_3, en_MO_qPartOf, e_MO_qPartOf_0, k_MO_qPartOf_0, e_MO_qPartOf_1, k_MO_qPartOf_1, e_MO_qPartOf_2, k_MO_qPartOf_2, e_MO_qPartOf_3, k_MO_qPartOf_3, rr, sh, Nat.reduceLT, Nat.reduceMul, Int.reduceToNat, Int.reduceGT, Int.reduceGE, Int.reduceNe, true_and, and_true, true_or, or_true, false_or, or_false, and_self, or_self, if_true, if_false, reduceIte, not_true_eq_false, not_false_eq_true, Int.reduceEq, Int.reduceNe, Int.reduceLT, Int.reduceLE, Int.reduceAdd, Int.reduceSub, Int.reduceMul, Int.reduceNeg, Nat.reduceAdd, Nat.reduceLeDiff, Nat.reduceEqDiff, ne_eq, List.length_cons, List.length_nil, Nat.reduceSub, u, c1, p87, j1, v, w0, ho, q_clipM, ei, hp]
      exact q1
  by_cases c13 : e = -13
  · subst c13
    obtain ⟨l1, q1⟩ := leaf (qGd V i) rfl
    have v : H 136 k = 42 := v
    have q1 : tM7 d Q i k 42 _ := q1
    have w0 : w32 2 = 2 := rfl
    have ei : qcl (qGd V i) = qGd V i := qcl_id (by unfold qGd; exact bdQi)
    have hp := fun {Q} => q_putsM (d := d + 5) (Q := Q) (x := qGd V i) p93 hs' l1
    have ho := fun {Q} => q_goodAtM (d := d) (Q := Q) hM hH h0 h9
    unfold tM7 at q1
    rcases hy with rfl | ⟨y0, rfl⟩
    all_goals
      simp only [k_MO_qTold_1, e_MO_qTold_2, k_MO_qTold_2, e_MO_qTold_3, k_MO_qTold_3, en_MO_qPartOf, e_MO_qPartOf_0, k_MO_qPartOf_0, e_MO_qPartOf_1, k_MO_qPartOf_1, e_MO_qPartOf_2, k_MO_qPartOf_2, e_MO_qPartOf_3, k_MO_qPartOf_3, rr, sh, Nat.reduceLT, Nat.reduceMul, Int.reduceToNat, Int.reduceGT, Int.reduceGE, Int.reduceNe, true_and, and_true, true_or, or_true, false_or, or_false, and_self, or_self, if_true, if_false, reduceIte, not_true_eq_false, not_false_eq_true, Int.reduceEq, Int.reduceNe, Int.reduceLT, Int.reduceLE, Int.reduceAdd, Int.reduceSub, Int.reduceMul, Int.reduceNeg, Nat.reduceAdd, Nat.reduceLeDiff, Nat.reduceEqDiff, ne_eq, List.length_cons, List.length_nil, Nat.reduceSub, u, c1, p87, j1, v, w0, ho, q_clipM, ei, hp]
      exact q1
  by_cases cu : e = -9 ∨ e = -14 ∨ e = -15
  · have a1 : qAr e = 1 := by rcases cu with rfl | rfl | rfl <;> rfl
    rw [a1] at ea
    cases s with
    | nil => exact absurd ea (by decide)
    | cons x s =>
      have eq : qst V i e (x :: s) = qUn V i e x :: s := by unfold qst; rw [a1]; rfl
      rw [eq, List.length_cons] at hl
      obtain ⟨t0, t1, t2, t3⟩ := sm_one hs' (by omega)
      have fin : tM7 d Q i k (rco e) (hs H 138 (s.length : Nat) (qUn V i e x)) := hQ _ fx_setM (by rw [eq]; exact hs'.set)
      unfold tM7 at fin
      rcases cu with rfl | rfl | rfl
      · have bl := eb9 rfl
        have bl : x = 0 ∨ x = 1 := bl
        have v : H 136 k = 12 := v
        have ex : w64 (1 - x) = qUn V i (-9) x := by
          rcases bl with rfl | rfl <;> rfl
        rw [show rco (-9) = 12 from rfl] at fin
        rcases hy with rfl | ⟨y0, rfl⟩
        all_goals
          simp only [k_MO_qTold_1, e_MO_qTold_2, k_MO_qTold_2, e_MO_qTold_3, k_MO_qTold_3, e_MO_qTold_4, k_MO_qTold_4, e_MO_qTold_5, k_MO_qTold_5, rr, sh, Nat.reduceLT, Nat.reduceMul, Int.reduceToNat, Int.reduceGT, Int.reduceGE, Int.reduceNe, true_and, and_true, true_or, or_true, false_or, or_false, and_self, or_self, if_true, if_false, reduceIte, not_true_eq_false, not_false_eq_true, Int.reduceEq, Int.reduceNe, Int.reduceLT, Int.reduceLE, Int.reduceAdd, Int.reduceSub, Int.reduceMul, Int.reduceNeg, Nat.reduceAdd, Nat.reduceLeDiff, Nat.reduceEqDiff, ne_eq, List.length_cons, List.length_nil, Nat.reduceSub, u, c1, p87, p93, j1, v, t0, t1, t2, t3, ex]
          exact fin
      · have v : H 136 k = 60 := v
        have w0 : w32 0 = 0 := rfl
        rw [show rco (-14) = 60 from rfl] at fin
        have fin : R (d + 6) MO_qTold (blk MO_qTold 7) [va 71, vi i, vi k, vi 60] [] (hs H 138 (s.length : Nat) (qSw V i x)) Q := fin
        rcases hy with rfl | ⟨y0, rfl⟩
        all_goals
          simp only [k_MO_qTold_1, e_MO_qTold_2, k_MO_qTold_2, rr, sh, Nat.reduceLT, Nat.reduceMul, Int.reduceToNat, Int.reduceGT, Int.reduceGE, Int.reduceNe, true_and, and_true, true_or, or_true, false_or, or_false, and_self, or_self, if_true, if_false, reduceIte, not_true_eq_false, not_false_eq_true, Int.reduceEq, Int.reduceNe, Int.reduceLT, Int.reduceLE, Int.reduceAdd, Int.reduceSub, Int.reduceMul, Int.reduceNeg, Nat.reduceAdd, Nat.reduceLeDiff, Nat.reduceEqDiff, ne_eq, List.length_cons, List.length_nil, Nat.reduceSub, u, c1, p87, p93, j1, v, t0, t1, t2, t3, w0]
          refine CC_mn (q_qOf0 (d := d + 2) hM hH h0 h9) (fun r H1 h1 => ?_)
          obtain ⟨z, rfl, ez, rfl⟩ := h1
          simp only [rr, sh, Nat.reduceLT, Nat.reduceMul, Int.reduceToNat, Int.reduceGT, Int.reduceGE, Int.reduceNe, true_and, and_true, true_or, or_true, false_or, or_false, and_self, or_self, if_true, if_false, reduceIte, not_true_eq_false, not_false_eq_true, Int.reduceEq, Int.reduceNe, Int.reduceLT, Int.reduceLE, Int.reduceAdd, Int.reduceSub, Int.reduceMul, Int.reduceNeg, Nat.reduceAdd, Nat.reduceLeDiff, Nat.reduceEqDiff, ne_eq, List.length_cons, List.length_nil, Nat.reduceSub, q_clipM, t2, ez]
          exact fin
      · have v : H 136 k = 61 := v
        have w0 : w32 1 = 1 := rfl
        rw [show rco (-15) = 61 from rfl] at fin
        have fin : R (d + 6) MO_qTold (blk MO_qTold 7) [va 71, vi i, vi k, vi 61] [] (hs H 138 (s.length : Nat) (qFr V i x)) Q := fin
        rcases hy with rfl | ⟨y0, rfl⟩
        all_goals
          simp only [k_MO_qTold_1, e_MO_qTold_2, k_MO_qTold_2, rr, sh, Nat.reduceLT, Nat.reduceMul, Int.reduceToNat, Int.reduceGT, Int.reduceGE, Int.reduceNe, true_and, and_true, true_or, or_true, false_or, or_false, and_self, or_self, if_true, if_false, reduceIte, not_true_eq_false, not_false_eq_true, Int.reduceEq, Int.reduceNe, Int.reduceLT, Int.reduceLE, Int.reduceAdd, Int.reduceSub, Int.reduceMul, Int.reduceNeg, Nat.reduceAdd, Nat.reduceLeDiff, Nat.reduceEqDiff, ne_eq, List.length_cons, List.length_nil, Nat.reduceSub, u, c1, p87, p93, j1, v, t0, t1, t2, t3, w0]
          refine CC_mn (q_qOf1 (d := d + 2) hM hH h0 h9) (fun r H1 h1 => ?_)
          obtain ⟨z, rfl, ez, rfl⟩ := h1
          simp only [rr, sh, Nat.reduceLT, Nat.reduceMul, Int.reduceToNat, Int.reduceGT, Int.reduceGE, Int.reduceNe, true_and, and_true, true_or, or_true, false_or, or_false, and_self, or_self, if_true, if_false, reduceIte, not_true_eq_false, not_false_eq_true, Int.reduceEq, Int.reduceNe, Int.reduceLT, Int.reduceLE, Int.reduceAdd, Int.reduceSub, Int.reduceMul, Int.reduceNeg, Nat.reduceAdd, Nat.reduceLeDiff, Nat.reduceEqDiff, ne_eq, List.length_cons, List.length_nil, Nat.reduceSub, q_clipM, t2, ez]
          exact fin
  · have c2 : is2 e := by unfold is2; omega
    have a2 : qAr e = 2 := by rcases c2 with rfl | rfl | rfl | rfl | rfl | rfl | rfl | rfl | rfl | rfl | rfl <;> rfl
    rw [a2] at ea
    cases s with
    | nil => exact absurd ea (by decide)
    | cons y1 s =>
      cases s with
      | nil => exact absurd (show (2 : Nat) ≤ 1 from ea) (by decide)
      | cons x s =>
        have eq : qst V i e (y1 :: x :: s) = qJn e x y1 :: s := by unfold qst; rw [a2]; rfl
        rw [eq, List.length_cons] at hl
        have by_ : BdQ y1 := hb y1 (List.mem_cons_self ..)
        have bx : BdQ x := hb x (List.mem_cons_of_mem _ (List.mem_cons_self ..))
        have hj := fun {Q} => q_joinsM (d := d + 3) (Q := Q) c2 p93 hs' (by omega) bx by_ eb2
        have fin : tM7 d Q i k (rco e) _ := hQ _ (fx_popM.tr fx_pshM) (by rw [eq]; exact hs'.pop.1.push)
        unfold tM7 at fin
        have n1 : rco e < 1000 ∧ rco e < 60 ∧ rco e < 40 ∧ ¬ rco e = 13 ∧ ¬ rco e = 12 := by
          rcases c2 with rfl | rfl | rfl | rfl | rfl | rfl | rfl | rfl | rfl | rfl | rfl <;> decide
        obtain ⟨n1, n2, n3, n4, n5⟩ := n1
        generalize rco e = z at *
        rcases hy with rfl | ⟨y0, rfl⟩
        all_goals
          simp only [k_MO_qTold_1, e_MO_qTold_2, k_MO_qTold_2, e_MO_qTold_3, k_MO_qTold_3, e_MO_qTold_4, k_MO_qTold_4, e_MO_qTold_5, k_MO_qTold_5, e_MO_qTold_6, k_MO_qTold_6, rr, sh, Nat.reduceLT, Nat.reduceMul, Int.reduceToNat, Int.reduceGT, Int.reduceGE, Int.reduceNe, true_and, and_true, true_or, or_true, false_or, or_false, and_self, or_self, if_true, if_false, reduceIte, not_true_eq_false, not_false_eq_true, Int.reduceEq, Int.reduceNe, Int.reduceLT, Int.reduceLE, Int.reduceAdd, Int.reduceSub, Int.reduceMul, Int.reduceNeg, Nat.reduceAdd, Nat.reduceLeDiff, Nat.reduceEqDiff, ne_eq, List.length_cons, List.length_nil, Nat.reduceSub, u, c1, p87, j1, v, n1, n2, n3, n4, n5, hj]
          exact fin
end QV7
