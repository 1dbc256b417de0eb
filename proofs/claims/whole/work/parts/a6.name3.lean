/-! THE BOAT'S TEXT: a name, the reference -/
/-- what the reference's readers write -/
def sMM (a b : Int) : Bool := if a = 71 then (decide (b = 2) || decide (b = 4) || decide (b = 5) || decide (b = 6) || decide (b = 10) || decide (b = 28)) else false
theorem sLM_sMM (a b : Int) (h : sLM a b = true) : sMM a b = true := by
  unfold sLM at h
  unfold sMM
  by_cases c : a = 71
  · rw [if_pos c] at h ⊢
    simp only [Bool.or_eq_true, decide_eq_true_eq] at h ⊢
    omega
  · rw [if_neg c] at h; cases h
theorem sMM_sTM (a b : Int) (h : sMM a b = true) : sTM a b = true := by
  unfold sMM at h
  unfold sTM
  by_cases c : a = 71
  · rw [if_pos c] at h ⊢
    simp only [Bool.or_eq_true, decide_eq_true_eq] at h ⊢
    omega
  · rw [if_neg c] at h; cases h
theorem sMM_fh (a b : Int) (h : fh a b = true) : sMM a b = false := by
  unfold sMM
  rw [if_neg (fh_71 h)]
theorem ow_all {B : List Int → Bool} (h : ∀ i : Nat, i < 17 → B (OW.getD i []) = false) : ∀ w ∈ OW, B w = false := by
  intro w hw
  obtain ⟨i, hi, rfl⟩ := List.getElem_of_mem hw
  have := h i hi
  rw [List.getD_eq_getElem?_getD, List.getElem?_eq_getElem hi] at this
  exact this
theorem ow_mem {i : Nat} (hi : i < 17) : OW.getD i [] ∈ OW := by
  have h : ∀ i : Nat, i < 17 → OW.contains (OW.getD i []) = true := by decide +kernel
  exact List.contains_iff_mem.mp (h i hi)
def nmO (V : Hp) (a : Nat) (j : Int) : RdO :=
  if ltH V a j = true ∧ wrI V a j OW = -1 then
    if enE V a - skE V a ≤ 6 then .ok (enE V a, nmT V a) else .error (1, ((skE V a + 6 : Nat) : Int))
  else .error (1, (skE V a : Int))
theorem nmO_er {V : Hp} {a : Nat} {j : Int} {kk p : Int} (h : nmO V a j = .error (kk, p)) : kk ≠ 0 := by
  unfold nmO at h
  split at h
  · split at h
    · cases h
    · cases h; decide
  · cases h; decide
section PH
variable {d : Nat} {V P H : Hp} {Q : AV → Hp → Prop}
theorem q_isHereS (hT : TapeR V) {a : Nat} {j : Int} (hM : MRd V H a j) (hs' : skE V a = a) {c : Int} (hc1 : c ≠ 71) {w : List Int} (hc : ChW H c w) (hw : w.length ≤ 100) : CC (d + 1) MO_isHere [va 71, va c] H Q = Q (vi (bI (hereB V a j w))) H := by
  rw [q_isHere hT hM.1 hM.2.1 hM.2.2.2.2.2 hM.2.2.1 hM.2.2.2.1 hc1 hc hw, hs', ← hM.2.1, hs_self]
set_option maxRecDepth 20000 in
theorem q_isOwnHere (hT : TapeR V) (hP : Ptr H) (hW : Wds H) {a : Nat} {j : Int} (hM : MRd V H a j) (hs' : skE V a = a) : CC (d + 2) MO_isOwnHere [va 71] H Q = Q (vi (if wrI V a j OW = -1 then 0 else 1)) H := by
  refine CC_dt fun Q hQ => ?_
  have f := (Vw.rf (V := H)).f hP
  have h0 : ∀ {Q : AV → Hp → Prop}, CC (d + 1) MO_isHere [va 71, va 74] H Q = Q (vi (bI (hereB V a j (OW.getD 0 [])))) H := fun {Q} => q_isHereS hT hM hs' (by decide) (chO hW (i := 0) (by decide)) (lnO (i := 0) (by decide)).1
  have h1 : ∀ {Q : AV → Hp → Prop}, CC (d + 1) MO_isHere [va 71, va 75] H Q = Q (vi (bI (hereB V a j (OW.getD 1 [])))) H := fun {Q} => q_isHereS hT hM hs' (by decide) (chO hW (i := 1) (by decide)) (lnO (i := 1) (by decide)).1
  have h2 : ∀ {Q : AV → Hp → Prop}, CC (d + 1) MO_isHere [va 71, va 76] H Q = Q (vi (bI (hereB V a j (OW.getD 2 [])))) H := fun {Q} => q_isHereS hT hM hs' (by decide) (chO hW (i := 2) (by decide)) (lnO (i := 2) (by decide)).1
  have h3 : ∀ {Q : AV → Hp → Prop}, CC (d + 1) MO_isHere [va 71, va 77] H Q = Q (vi (bI (hereB V a j (OW.getD 3 [])))) H := fun {Q} => q_isHereS hT hM hs' (by decide) (chO hW (i := 3) (by decide)) (lnO (i := 3) (by decide)).1
  have h4 : ∀ {Q : AV → Hp → Prop}, CC (d + 1) MO_isHere [va 71, va 78] H Q = Q (vi (bI (hereB V a j (OW.getD 4 [])))) H := fun {Q} => q_isHereS hT hM hs' (by decide) (chO hW (i := 4) (by decide)) (lnO (i := 4) (by decide)).1
  have h5 : ∀ {Q : AV → Hp → Prop}, CC (d + 1) MO_isHere [va 71, va 79] H Q = Q (vi (bI (hereB V a j (OW.getD 5 [])))) H := fun {Q} => q_isHereS hT hM hs' (by decide) (chO hW (i := 5) (by decide)) (lnO (i := 5) (by decide)).1
  have h6 : ∀ {Q : AV → Hp → Prop}, CC (d + 1) MO_isHere [va 71, va 80] H Q = Q (vi (bI (hereB V a j (OW.getD 6 [])))) H := fun {Q} => q_isHereS hT hM hs' (by decide) (chO hW (i := 6) (by decide)) (lnO (i := 6) (by decide)).1
  have h7 : ∀ {Q : AV → Hp → Prop}, CC (d + 1) MO_isHere [va 71, va 81] H Q = Q (vi (bI (hereB V a j (OW.getD 7 [])))) H := fun {Q} => q_isHereS hT hM hs' (by decide) (chO hW (i := 7) (by decide)) (lnO (i := 7) (by decide)).1
  have h8 : ∀ {Q : AV → Hp → Prop}, CC (d + 1) MO_isHere [va 71, va 82] H Q = Q (vi (bI (hereB V a j (OW.getD 8 [])))) H := fun {Q} => q_isHereS hT hM hs' (by decide) (chO hW (i := 8) (by decide)) (lnO (i := 8) (by decide)).1
  have h9 : ∀ {Q : AV → Hp → Prop}, CC (d + 1) MO_isHere [va 71, va 83] H Q = Q (vi (bI (hereB V a j (OW.getD 9 [])))) H := fun {Q} => q_isHereS hT hM hs' (by decide) (chO hW (i := 9) (by decide)) (lnO (i := 9) (by decide)).1
  have h10 : ∀ {Q : AV → Hp → Prop}, CC (d + 1) MO_isHere [va 71, va 84] H Q = Q (vi (bI (hereB V a j (OW.getD 10 [])))) H := fun {Q} => q_isHereS hT hM hs' (by decide) (chO hW (i := 10) (by decide)) (lnO (i := 10) (by decide)).1
  have h11 : ∀ {Q : AV → Hp → Prop}, CC (d + 1) MO_isHere [va 71, va 85] H Q = Q (vi (bI (hereB V a j (OW.getD 11 [])))) H := fun {Q} => q_isHereS hT hM hs' (by decide) (chO hW (i := 11) (by decide)) (lnO (i := 11) (by decide)).1
  have h12 : ∀ {Q : AV → Hp → Prop}, CC (d + 1) MO_isHere [va 71, va 86] H Q = Q (vi (bI (hereB V a j (OW.getD 12 [])))) H := fun {Q} => q_isHereS hT hM hs' (by decide) (chO hW (i := 12) (by decide)) (lnO (i := 12) (by decide)).1
  have h13 : ∀ {Q : AV → Hp → Prop}, CC (d + 1) MO_isHere [va 71, va 87] H Q = Q (vi (bI (hereB V a j (OW.getD 13 [])))) H := fun {Q} => q_isHereS hT hM hs' (by decide) (chO hW (i := 13) (by decide)) (lnO (i := 13) (by decide)).1
  have h14 : ∀ {Q : AV → Hp → Prop}, CC (d + 1) MO_isHere [va 71, va 88] H Q = Q (vi (bI (hereB V a j (OW.getD 14 [])))) H := fun {Q} => q_isHereS hT hM hs' (by decide) (chO hW (i := 14) (by decide)) (lnO (i := 14) (by decide)).1
  have h15 : ∀ {Q : AV → Hp → Prop}, CC (d + 1) MO_isHere [va 71, va 89] H Q = Q (vi (bI (hereB V a j (OW.getD 15 [])))) H := fun {Q} => q_isHereS hT hM hs' (by decide) (chO hW (i := 15) (by decide)) (lnO (i := 15) (by decide)).1
  have h16 : ∀ {Q : AV → Hp → Prop}, CC (d + 1) MO_isHere [va 71, va 90] H Q = Q (vi (bI (hereB V a j (OW.getD 16 [])))) H := fun {Q} => q_isHereS hT hM hs' (by decide) (chO hW (i := 16) (by decide)) (lnO (i := 16) (by decide)).1
  have yes : ∀ i : Nat, i < 17 → hereB V a j (OW.getD i []) = true → Q (vi 1) H := by
    intro i hi hb
    rw [if_neg (fun z => by rw [wr_none.mp z _ (ow_mem hi)] at hb; cases hb)] at hQ
    exact hQ
  cases b0 : hereB V a j (OW.getD 0 []) with
  | true =>
    have y := yes 0 (by decide) b0
    simp only [en_MO_isOwnHere, e_MO_isOwnHere_0, k_MO_isOwnHere_0, e_MO_isOwnHere_1, k_MO_isOwnHere_1, e_MO_isOwnHere_2, k_MO_isOwnHere_2, e_MO_isOwnHere_3, k_MO_isOwnHere_3, e_MO_isOwnHere_4, k_MO_isOwnHere_4, e_MO_isOwnHere_5, k_MO_isOwnHere_5, e_MO_isOwnHere_6, k_MO_isOwnHere_6, e_MO_isOwnHere_7, k_MO_isOwnHere_7, e_MO_isOwnHere_8, k_MO_isOwnHere_8, e_MO_isOwnHere_9, k_MO_isOwnHere_9, rr, sh, Nat.reduceLT, Nat.reduceMul, Int.reduceToNat, Int.reduceGT, Int.reduceGE, Int.reduceNe, true_and, and_true, true_or, or_true, false_or, or_false, and_self, or_self, if_true, if_false, reduceIte, not_true_eq_false, not_false_eq_true, Int.reduceEq, Int.reduceNe, Int.reduceLT, Int.reduceLE, Int.reduceAdd, Int.reduceSub, Int.reduceMul, Int.reduceNeg, Nat.reduceAdd, Nat.reduceLeDiff, Nat.reduceEqDiff, ne_eq, List.length_cons, List.length_nil, Nat.reduceSub, f, h0, b0, show bI true = 1 from rfl, show bI false = 0 from rfl]
    exact y
  | false =>
  cases b1 : hereB V a j (OW.getD 1 []) with
  | true =>
    have y := yes 1 (by decide) b1
    simp only [en_MO_isOwnHere, e_MO_isOwnHere_0, k_MO_isOwnHere_0, e_MO_isOwnHere_1, k_MO_isOwnHere_1, e_MO_isOwnHere_2, k_MO_isOwnHere_2, e_MO_isOwnHere_3, k_MO_isOwnHere_3, e_MO_isOwnHere_4, k_MO_isOwnHere_4, e_MO_isOwnHere_5, k_MO_isOwnHere_5, e_MO_isOwnHere_6, k_MO_isOwnHere_6, e_MO_isOwnHere_7, k_MO_isOwnHere_7, e_MO_isOwnHere_8, k_MO_isOwnHere_8, e_MO_isOwnHere_9, k_MO_isOwnHere_9, rr, sh, Nat.reduceLT, Nat.reduceMul, Int.reduceToNat, Int.reduceGT, Int.reduceGE, Int.reduceNe, true_and, and_true, true_or, or_true, false_or, or_false, and_self, or_self, if_true, if_false, reduceIte, not_true_eq_false, not_false_eq_true, Int.reduceEq, Int.reduceNe, Int.reduceLT, Int.reduceLE, Int.reduceAdd, Int.reduceSub, Int.reduceMul, Int.reduceNeg, Nat.reduceAdd, Nat.reduceLeDiff, Nat.reduceEqDiff, ne_eq, List.length_cons, List.length_nil, Nat.reduceSub, f, h0, h1, b0, b1, show bI true = 1 from rfl, show bI false = 0 from rfl]
    exact y
  | false =>
  cases b2 : hereB V a j (OW.getD 2 []) with
  | true =>
    have y := yes 2 (by decide) b2
    simp only [en_MO_isOwnHere, e_MO_isOwnHere_0, k_MO_isOwnHere_0, e_MO_isOwnHere_1, k_MO_isOwnHere_1, e_MO_isOwnHere_2, k_MO_isOwnHere_2, e_MO_isOwnHere_3, k_MO_isOwnHere_3, e_MO_isOwnHere_4, k_MO_isOwnHere_4, e_MO_isOwnHere_5, k_MO_isOwnHere_5, e_MO_isOwnHere_6, k_MO_isOwnHere_6, e_MO_isOwnHere_7, k_MO_isOwnHere_7, e_MO_isOwnHere_8, k_MO_isOwnHere_8, e_MO_isOwnHere_9, k_MO_isOwnHere_9, rr, sh, Nat.reduceLT, Nat.reduceMul, Int.reduceToNat, Int.reduceGT, Int.reduceGE, Int.reduceNe, true_and, and_true, true_or, or_true, false_or, or_false, and_self, or_self, if_true, if_false, reduceIte, not_true_eq_false, not_false_eq_true, Int.reduceEq, Int.reduceNe, Int.reduceLT, Int.reduceLE, Int.reduceAdd, Int.reduceSub, Int.reduceMul, Int.reduceNeg, Nat.reduceAdd, Nat.reduceLeDiff, Nat.reduceEqDiff, ne_eq, List.length_cons, List.length_nil, Nat.reduceSub, f, h0, h1, h2, b0, b1, b2, show bI true = 1 from rfl, show bI false = 0 from rfl]
    exact y
  | false =>
  cases b3 : hereB V a j (OW.getD 3 []) with
  | true =>
    have y := yes 3 (by decide) b3
    simp only [en_MO_isOwnHere, e_MO_isOwnHere_0, k_MO_isOwnHere_0, e_MO_isOwnHere_1, k_MO_isOwnHere_1, e_MO_isOwnHere_2, k_MO_isOwnHere_2, e_MO_isOwnHere_3, k_MO_isOwnHere_3, e_MO_isOwnHere_4, k_MO_isOwnHere_4, e_MO_isOwnHere_5, k_MO_isOwnHere_5, e_MO_isOwnHere_6, k_MO_isOwnHere_6, e_MO_isOwnHere_7, k_MO_isOwnHere_7, e_MO_isOwnHere_8, k_MO_isOwnHere_8, e_MO_isOwnHere_9, k_MO_isOwnHere_9, rr, sh, Nat.reduceLT, Nat.reduceMul, Int.reduceToNat, Int.reduceGT, Int.reduceGE, Int.reduceNe, true_and, and_true, true_or, or_true, false_or, or_false, and_self, or_self, if_true, if_false, reduceIte, not_true_eq_false, not_false_eq_true, Int.reduceEq, Int.reduceNe, Int.reduceLT, Int.reduceLE, Int.reduceAdd, Int.reduceSub, Int.reduceMul, Int.reduceNeg, Nat.reduceAdd, Nat.reduceLeDiff, Nat.reduceEqDiff, ne_eq, List.length_cons, List.length_nil, Nat.reduceSub, f, h0, h1, h2, h3, b0, b1, b2, b3, show bI true = 1 from rfl, show bI false = 0 from rfl]
    exact y
  | false =>
  cases b4 : hereB V a j (OW.getD 4 []) with
  | true =>
    have y := yes 4 (by decide) b4
    simp only [en_MO_isOwnHere, e_MO_isOwnHere_0, k_MO_isOwnHere_0, e_MO_isOwnHere_1, k_MO_isOwnHere_1, e_MO_isOwnHere_2, k_MO_isOwnHere_2, e_MO_isOwnHere_3, k_MO_isOwnHere_3, e_MO_isOwnHere_4, k_MO_isOwnHere_4, e_MO_isOwnHere_5, k_MO_isOwnHere_5, e_MO_isOwnHere_6, k_MO_isOwnHere_6, e_MO_isOwnHere_7, k_MO_isOwnHere_7, e_MO_isOwnHere_8, k_MO_isOwnHere_8, e_MO_isOwnHere_9, k_MO_isOwnHere_9, rr, sh, Nat.reduceLT, Nat.reduceMul, Int.reduceToNat, Int.reduceGT, Int.reduceGE, Int.reduceNe, true_and, and_true, true_or, or_true, false_or, or_false, and_self, or_self, if_true, if_false, reduceIte, not_true_eq_false, not_false_eq_true, Int.reduceEq, Int.reduceNe, Int.reduceLT, Int.reduceLE, Int.reduceAdd, Int.reduceSub, Int.reduceMul, Int.reduceNeg, Nat.reduceAdd, Nat.reduceLeDiff, Nat.reduceEqDiff, ne_eq, List.length_cons, List.length_nil, Nat.reduceSub, f, h0, h1, h2, h3, h4, b0, b1, b2, b3, b4, show bI true = 1 from rfl, show bI false = 0 from rfl]
    exact y
  | false =>
  cases b5 : hereB V a j (OW.getD 5 []) with
  | true =>
    have y := yes 5 (by decide) b5
    simp only [en_MO_isOwnHere, e_MO_isOwnHere_0, k_MO_isOwnHere_0, e_MO_isOwnHere_1, k_MO_isOwnHere_1, e_MO_isOwnHere_2, k_MO_isOwnHere_2, e_MO_isOwnHere_3, k_MO_isOwnHere_3, e_MO_isOwnHere_4, k_MO_isOwnHere_4, e_MO_isOwnHere_5, k_MO_isOwnHere_5, e_MO_isOwnHere_6, k_MO_isOwnHere_6, e_MO_isOwnHere_7, k_MO_isOwnHere_7, e_MO_isOwnHere_8, k_MO_isOwnHere_8, e_MO_isOwnHere_9, k_MO_isOwnHere_9, rr, sh, Nat.reduceLT, Nat.reduceMul, Int.reduceToNat, Int.reduceGT, Int.reduceGE, Int.reduceNe, true_and, and_true, true_or, or_true, false_or, or_false, and_self, or_self, if_true, if_false, reduceIte, not_true_eq_false, not_false_eq_true, Int.reduceEq, Int.reduceNe, Int.reduceLT, Int.reduceLE, Int.reduceAdd, Int.reduceSub, Int.reduceMul, Int.reduceNeg, Nat.reduceAdd, Nat.reduceLeDiff, Nat.reduceEqDiff, ne_eq, List.length_cons, List.length_nil, Nat.reduceSub, f, h0, h1, h2, h3, h4, h5, b0, b1, b2, b3, b4, b5, show bI true = 1 from rfl, show bI false = 0 from rfl]
    exact y
  | false =>
  cases b6 : hereB V a j (OW.getD 6 []) with
  | true =>
    have y := yes 6 (by decide) b6
    simp only [en_MO_isOwnHere, e_MO_isOwnHere_0, k_MO_isOwnHere_0, e_MO_isOwnHere_1, k_MO_isOwnHere_1, e_MO_isOwnHere_2, k_MO_isOwnHere_2, e_MO_isOwnHere_3, k_MO_isOwnHere_3, e_MO_isOwnHere_4, k_MO_isOwnHere_4, e_MO_isOwnHere_5, k_MO_isOwnHere_5, e_MO_isOwnHere_6, k_MO_isOwnHere_6, e_MO_isOwnHere_7, k_MO_isOwnHere_7, e_MO_isOwnHere_8, k_MO_isOwnHere_8, e_MO_isOwnHere_9, k_MO_isOwnHere_9, rr, sh, Nat.reduceLT, Nat.reduceMul, Int.reduceToNat, Int.reduceGT, Int.reduceGE, Int.reduceNe, true_and, and_true, true_or, or_true, false_or, or_false, and_self, or_self, if_true, if_false, reduceIte, not_true_eq_false, not_false_eq_true, Int.reduceEq, Int.reduceNe, Int.reduceLT, Int.reduceLE, Int.reduceAdd, Int.reduceSub, Int.reduceMul, Int.reduceNeg, Nat.reduceAdd, Nat.reduceLeDiff, Nat.reduceEqDiff, ne_eq, List.length_cons, List.length_nil, Nat.reduceSub, f, h0, h1, h2, h3, h4, h5, h6, b0, b1, b2, b3, b4, b5, b6, show bI true = 1 from rfl, show bI false = 0 from rfl]
    exact y
  | false =>
  cases b7 : hereB V a j (OW.getD 7 []) with
  | true =>
    have y := yes 7 (by decide) b7
    simp only [en_MO_isOwnHere, e_MO_isOwnHere_0, k_MO_isOwnHere_0, e_MO_isOwnHere_1, k_MO_isOwnHere_1, e_MO_isOwnHere_2, k_MO_isOwnHere_2, e_MO_isOwnHere_3, k_MO_isOwnHere_3, e_MO_isOwnHere_4, k_MO_isOwnHere_4, e_MO_isOwnHere_5, k_MO_isOwnHere_5, e_MO_isOwnHere_6, k_MO_isOwnHere_6, e_MO_isOwnHere_7, k_MO_isOwnHere_7, e_MO_isOwnHere_8, k_MO_isOwnHere_8, e_MO_isOwnHere_9, k_MO_isOwnHere_9, rr, sh, Nat.reduceLT, Nat.reduceMul, Int.reduceToNat, Int.reduceGT, Int.reduceGE, Int.reduceNe, true_and, and_true, true_or, or_true, false_or, or_false, and_self, or_self, if_true, if_false, reduceIte, not_true_eq_false, not_false_eq_true, Int.reduceEq, Int.reduceNe, Int.reduceLT, Int.reduceLE, Int.reduceAdd, Int.reduceSub, Int.reduceMul, Int.reduceNeg, Nat.reduceAdd, Nat.reduceLeDiff, Nat.reduceEqDiff, ne_eq, List.length_cons, List.length_nil, Nat.reduceSub, f, h0, h1, h2, h3, h4, h5, h6, h7, b0, b1, b2, b3, b4, b5, b6, b7, show bI true = 1 from rfl, show bI false = 0 from rfl]
    exact y
  | false =>
  cases b8 : hereB V a j (OW.getD 8 []) with
  | true =>
    have y := yes 8 (by decide) b8
    simp only [en_MO_isOwnHere, e_MO_isOwnHere_0, k_MO_isOwnHere_0, e_MO_isOwnHere_1, k_MO_isOwnHere_1, e_MO_isOwnHere_2, k_MO_isOwnHere_2, e_MO_isOwnHere_3, k_MO_isOwnHere_3, e_MO_isOwnHere_4, k_MO_isOwnHere_4, e_MO_isOwnHere_5, k_MO_isOwnHere_5, e_MO_isOwnHere_6, k_MO_isOwnHere_6, e_MO_isOwnHere_7, k_MO_isOwnHere_7, e_MO_isOwnHere_8, k_MO_isOwnHere_8, e_MO_isOwnHere_9, k_MO_isOwnHere_9, rr, sh, Nat.reduceLT, Nat.reduceMul, Int.reduceToNat, Int.reduceGT, Int.reduceGE, Int.reduceNe, true_and, and_true, true_or, or_true, false_or, or_false, and_self, or_self, if_true, if_false, reduceIte, not_true_eq_false, not_false_eq_true, Int.reduceEq, Int.reduceNe, Int.reduceLT, Int.reduceLE, Int.reduceAdd, Int.reduceSub, Int.reduceMul, Int.reduceNeg, Nat.reduceAdd, Nat.reduceLeDiff, Nat.reduceEqDiff, ne_eq, List.length_cons, List.length_nil, Nat.reduceSub, f, h0, h1, h2, h3, h4, h5, h6, h7, h8, b0, b1, b2, b3, b4, b5, b6, b7, b8, show bI true = 1 from rfl, show bI false = 0 from rfl]
    exact y
  | false =>
  cases b9 : hereB V a j (OW.getD 9 []) with
  | true =>
    have y := yes 9 (by decide) b9
    simp only [en_MO_isOwnHere, e_MO_isOwnHere_0, k_MO_isOwnHere_0, e_MO_isOwnHere_1, k_MO_isOwnHere_1, e_MO_isOwnHere_2, k_MO_isOwnHere_2, e_MO_isOwnHere_3, k_MO_isOwnHere_3, e_MO_isOwnHere_4, k_MO_isOwnHere_4, e_MO_isOwnHere_5, k_MO_isOwnHere_5, e_MO_isOwnHere_6, k_MO_isOwnHere_6, e_MO_isOwnHere_7, k_MO_isOwnHere_7, e_MO_isOwnHere_8, k_MO_isOwnHere_8, e_MO_isOwnHere_9, k_MO_isOwnHere_9, rr, sh, Nat.reduceLT, Nat.reduceMul, Int.reduceToNat, Int.reduceGT, Int.reduceGE, Int.reduceNe, true_and, and_true, true_or, or_true, false_or, or_false, and_self, or_self, if_true, if_false, reduceIte, not_true_eq_false, not_false_eq_true, Int.reduceEq, Int.reduceNe, Int.reduceLT, Int.reduceLE, Int.reduceAdd, Int.reduceSub, Int.reduceMul, Int.reduceNeg, Nat.reduceAdd, Nat.reduceLeDiff, Nat.reduceEqDiff, ne_eq, List.length_cons, List.length_nil, Nat.reduceSub, f, h0, h1, h2, h3, h4, h5, h6, h7, h8, h9, b0, b1, b2, b3, b4, b5, b6, b7, b8, b9, show bI true = 1 from rfl, show bI false = 0 from rfl]
    exact y
  | false =>
  cases b10 : hereB V a j (OW.getD 10 []) with
  | true =>
    have y := yes 10 (by decide) b10
    simp only [en_MO_isOwnHere, e_MO_isOwnHere_0, k_MO_isOwnHere_0, e_MO_isOwnHere_1, k_MO_isOwnHere_1, e_MO_isOwnHere_2, k_MO_isOwnHere_2, e_MO_isOwnHere_3, k_MO_isOwnHere_3, e_MO_isOwnHere_4, k_MO_isOwnHere_4, e_MO_isOwnHere_5, k_MO_isOwnHere_5, e_MO_isOwnHere_6, k_MO_isOwnHere_6, e_MO_isOwnHere_7, k_MO_isOwnHere_7, e_MO_isOwnHere_8, k_MO_isOwnHere_8, e_MO_isOwnHere_9, k_MO_isOwnHere_9, rr, sh, Nat.reduceLT, Nat.reduceMul, Int.reduceToNat, Int.reduceGT, Int.reduceGE, Int.reduceNe, true_and, and_true, true_or, or_true, false_or, or_false, and_self, or_self, if_true, if_false, reduceIte, not_true_eq_false, not_false_eq_true, Int.reduceEq, Int.reduceNe, Int.reduceLT, Int.reduceLE, Int.reduceAdd, Int.reduceSub, Int.reduceMul, Int.reduceNeg, Nat.reduceAdd, Nat.reduceLeDiff, Nat.reduceEqDiff, ne_eq, List.length_cons, List.length_nil, Nat.reduceSub, f, h0, h1, h2, h3, h4, h5, h6, h7, h8, h9, h10, b0, b1, b2, b3, b4, b5, b6, b7, b8, b9, b10, show bI true = 1 from rfl, show bI false = 0 from rfl]
    exact y
  | false =>
  cases b11 : hereB V a j (OW.getD 11 []) with
  | true =>
    have y := yes 11 (by decide) b11
    simp only [en_MO_isOwnHere, e_MO_isOwnHere_0, k_MO_isOwnHere_0, e_MO_isOwnHere_1, k_MO_isOwnHere_1, e_MO_isOwnHere_2, k_MO_isOwnHere_2, e_MO_isOwnHere_3, k_MO_isOwnHere_3, e_MO_isOwnHere_4, k_MO_isOwnHere_4, e_MO_isOwnHere_5, k_MO_isOwnHere_5, e_MO_isOwnHere_6, k_MO_isOwnHere_6, e_MO_isOwnHere_7, k_MO_isOwnHere_7, e_MO_isOwnHere_8, k_MO_isOwnHere_8, e_MO_isOwnHere_9, k_MO_isOwnHere_9, rr, sh, Nat.reduceLT, Nat.reduceMul, Int.reduceToNat, Int.reduceGT, Int.reduceGE, Int.reduceNe, true_and, and_true, true_or, or_true, false_or, or_false, and_self, or_self, if_true, if_false, reduceIte, not_true_eq_false, not_false_eq_true, Int.reduceEq, Int.reduceNe, Int.reduceLT, Int.reduceLE, Int.reduceAdd, Int.reduceSub, Int.reduceMul, Int.reduceNeg, Nat.reduceAdd, Nat.reduceLeDiff, Nat.reduceEqDiff, ne_eq, List.length_cons, List.length_nil, Nat.reduceSub, f, h0, h1, h2, h3, h4, h5, h6, h7, h8, h9, h10, h11, b0, b1, b2, b3, b4, b5, b6, b7, b8, b9, b10, b11, show bI true = 1 from rfl, show bI false = 0 from rfl]
    exact y
  | false =>
  cases b12 : hereB V a j (OW.getD 12 []) with
  | true =>
    have y := yes 12 (by decide) b12
    simp only [en_MO_isOwnHere, e_MO_isOwnHere_0, k_MO_isOwnHere_0, e_MO_isOwnHere_1, k_MO_isOwnHere_1, e_MO_isOwnHere_2, k_MO_isOwnHere_2, e_MO_isOwnHere_3, k_MO_isOwnHere_3, e_MO_isOwnHere_4, k_MO_isOwnHere_4, e_MO_isOwnHere_5, k_MO_isOwnHere_5, e_MO_isOwnHere_6, k_MO_isOwnHere_6, e_MO_isOwnHere_7, k_MO_isOwnHere_7, e_MO_isOwnHere_8, k_MO_isOwnHere_8, e_MO_isOwnHere_9, k_MO_isOwnHere_9, rr, sh, Nat.reduceLT, Nat.reduceMul, Int.reduceToNat, Int.reduceGT, Int.reduceGE, Int.reduceNe, true_and, and_true, true_or, or_true, false_or, or_false, and_self, or_self, if_true, if_false, reduceIte, not_true_eq_false, not_false_eq_true, Int.reduceEq, Int.reduceNe, Int.reduceLT, Int.reduceLE, Int.reduceAdd, Int.reduceSub, Int.reduceMul, Int.reduceNeg, Nat.reduceAdd, Nat.reduceLeDiff, Nat.reduceEqDiff, ne_eq, List.length_cons, List.length_nil, Nat.reduceSub, f, h0, h1, h2, h3, h4, h5, h6, h7, h8, h9, h10, h11, h12, b0, b1, b2, b3, b4, b5, b6, b7, b8, b9, b10, b11, b12, show bI true = 1 from rfl, show bI false = 0 from rfl]
    exact y
  | false =>
  cases b13 : hereB V a j (OW.getD 13 []) with
  | true =>
    have y := yes 13 (by decide) b13
    simp only [en_MO_isOwnHere, e_MO_isOwnHere_0, k_MO_isOwnHere_0, e_MO_isOwnHere_1, k_MO_isOwnHere_1, e_MO_isOwnHere_2, k_MO_isOwnHere_2, e_MO_isOwnHere_3, k_MO_isOwnHere_3, e_MO_isOwnHere_4, k_MO_isOwnHere_4, e_MO_isOwnHere_5, k_MO_isOwnHere_5, e_MO_isOwnHere_6, k_MO_isOwnHere_6, e_MO_isOwnHere_7, k_MO_isOwnHere_7, e_MO_isOwnHere_8, k_MO_isOwnHere_8, e_MO_isOwnHere_9, k_MO_isOwnHere_9, rr, sh, Nat.reduceLT, Nat.reduceMul, Int.reduceToNat, Int.reduceGT, Int.reduceGE, Int.reduceNe, true_and, and_true, true_or, or_true, false_or, or_false, and_self, or_self, if_true, if_false, reduceIte, not_true_eq_false, not_false_eq_true, Int.reduceEq, Int.reduceNe, Int.reduceLT, Int.reduceLE, Int.reduceAdd, Int.reduceSub, Int.reduceMul, Int.reduceNeg, Nat.reduceAdd, Nat.reduceLeDiff, Nat.reduceEqDiff, ne_eq, List.length_cons, List.length_nil, Nat.reduceSub, f, h0, h1, h2, h3, h4, h5, h6, h7, h8, h9, h10, h11, h12, h13, b0, b1, b2, b3, b4, b5, b6, b7, b8, b9, b10, b11, b12, b13, show bI true = 1 from rfl, show bI false = 0 from rfl]
    exact y
  | false =>
  cases b14 : hereB V a j (OW.getD 14 []) with
  | true =>
    have y := yes 14 (by decide) b14
    simp only [en_MO_isOwnHere, e_MO_isOwnHere_0, k_MO_isOwnHere_0, e_MO_isOwnHere_1, k_MO_isOwnHere_1, e_MO_isOwnHere_2, k_MO_isOwnHere_2, e_MO_isOwnHere_3, k_MO_isOwnHere_3, e_MO_isOwnHere_4, k_MO_isOwnHere_4, e_MO_isOwnHere_5, k_MO_isOwnHere_5, e_MO_isOwnHere_6, k_MO_isOwnHere_6, e_MO_isOwnHere_7, k_MO_isOwnHere_7, e_MO_isOwnHere_8, k_MO_isOwnHere_8, e_MO_isOwnHere_9, k_MO_isOwnHere_9, rr, sh, Nat.reduceLT, Nat.reduceMul, Int.reduceToNat, Int.reduceGT, Int.reduceGE, Int.reduceNe, true_and, and_true, true_or, or_true, false_or, or_false, and_self, or_self, if_true, if_false, reduceIte, not_true_eq_false, not_false_eq_true, Int.reduceEq, Int.reduceNe, Int.reduceLT, Int.reduceLE, Int.reduceAdd, Int.reduceSub, Int.reduceMul, Int.reduceNeg, Nat.reduceAdd, Nat.reduceLeDiff, Nat.reduceEqDiff, ne_eq, List.length_cons, List.length_nil, Nat.reduceSub, f, h0, h1, h2, h3, h4, h5, h6, h7, h8, h9, h10, h11, h12, h13, h14, b0, b1, b2, b3, b4, b5, b6, b7, b8, b9, b10, b11, b12, b13, b14, show bI true = 1 from rfl, show bI false = 0 from rfl]
    exact y
  | false =>
  cases b15 : hereB V a j (OW.getD 15 []) with
  | true =>
    have y := yes 15 (by decide) b15
    simp only [en_MO_isOwnHere, e_MO_isOwnHere_0, k_MO_isOwnHere_0, e_MO_isOwnHere_1, k_MO_isOwnHere_1, e_MO_isOwnHere_2, k_MO_isOwnHere_2, e_MO_isOwnHere_3, k_MO_isOwnHere_3, e_MO_isOwnHere_4, k_MO_isOwnHere_4, e_MO_isOwnHere_5, k_MO_isOwnHere_5, e_MO_isOwnHere_6, k_MO_isOwnHere_6, e_MO_isOwnHere_7, k_MO_isOwnHere_7, e_MO_isOwnHere_8, k_MO_isOwnHere_8, e_MO_isOwnHere_9, k_MO_isOwnHere_9, rr, sh, Nat.reduceLT, Nat.reduceMul, Int.reduceToNat, Int.reduceGT, Int.reduceGE, Int.reduceNe, true_and, and_true, true_or, or_true, false_or, or_false, and_self, or_self, if_true, if_false, reduceIte, not_true_eq_false, not_false_eq_true, Int.reduceEq, Int.reduceNe, Int.reduceLT, Int.reduceLE, Int.reduceAdd, Int.reduceSub, Int.reduceMul, Int.reduceNeg, Nat.reduceAdd, Nat.reduceLeDiff, Nat.reduceEqDiff, ne_eq, List.length_cons, List.length_nil, Nat.reduceSub, f, h0, h1, h2, h3, h4, h5, h6, h7, h8, h9, h10, h11, h12, h13, h14, h15, b0, b1, b2, b3, b4, b5, b6, b7, b8, b9, b10, b11, b12, b13, b14, b15, show bI true = 1 from rfl, show bI false = 0 from rfl]
    exact y
  | false =>
  cases b16 : hereB V a j (OW.getD 16 []) with
  | true =>
    have y := yes 16 (by decide) b16
    simp only [en_MO_isOwnHere, e_MO_isOwnHere_0, k_MO_isOwnHere_0, e_MO_isOwnHere_1, k_MO_isOwnHere_1, e_MO_isOwnHere_2, k_MO_isOwnHere_2, e_MO_isOwnHere_3, k_MO_isOwnHere_3, e_MO_isOwnHere_4, k_MO_isOwnHere_4, e_MO_isOwnHere_5, k_MO_isOwnHere_5, e_MO_isOwnHere_6, k_MO_isOwnHere_6, e_MO_isOwnHere_7, k_MO_isOwnHere_7, e_MO_isOwnHere_8, k_MO_isOwnHere_8, e_MO_isOwnHere_9, k_MO_isOwnHere_9, rr, sh, Nat.reduceLT, Nat.reduceMul, Int.reduceToNat, Int.reduceGT, Int.reduceGE, Int.reduceNe, true_and, and_true, true_or, or_true, false_or, or_false, and_self, or_self, if_true, if_false, reduceIte, not_true_eq_false, not_false_eq_true, Int.reduceEq, Int.reduceNe, Int.reduceLT, Int.reduceLE, Int.reduceAdd, Int.reduceSub, Int.reduceMul, Int.reduceNeg, Nat.reduceAdd, Nat.reduceLeDiff, Nat.reduceEqDiff, ne_eq, List.length_cons, List.length_nil, Nat.reduceSub, f, h0, h1, h2, h3, h4, h5, h6, h7, h8, h9, h10, h11, h12, h13, h14, h15, h16, b0, b1, b2, b3, b4, b5, b6, b7, b8, b9, b10, b11, b12, b13, b14, b15, b16, show bI true = 1 from rfl, show bI false = 0 from rfl]
    exact y
  | false =>
  rw [if_pos (wr_none.mpr (ow_all (B := fun w => hereB V a j w) (fun i hi => match i, hi with | 0, _ => b0 | 1, _ => b1 | 2, _ => b2 | 3, _ => b3 | 4, _ => b4 | 5, _ => b5 | 6, _ => b6 | 7, _ => b7 | 8, _ => b8 | 9, _ => b9 | 10, _ => b10 | 11, _ => b11 | 12, _ => b12 | 13, _ => b13 | 14, _ => b14 | 15, _ => b15 | 16, _ => b16 | n + 17, h => absurd h (by omega))))] at hQ
  simp only [en_MO_isOwnHere, e_MO_isOwnHere_0, k_MO_isOwnHere_0, e_MO_isOwnHere_1, k_MO_isOwnHere_1, e_MO_isOwnHere_2, k_MO_isOwnHere_2, e_MO_isOwnHere_3, k_MO_isOwnHere_3, e_MO_isOwnHere_4, k_MO_isOwnHere_4, e_MO_isOwnHere_5, k_MO_isOwnHere_5, e_MO_isOwnHere_6, k_MO_isOwnHere_6, e_MO_isOwnHere_7, k_MO_isOwnHere_7, e_MO_isOwnHere_8, k_MO_isOwnHere_8, e_MO_isOwnHere_9, k_MO_isOwnHere_9, rr, sh, Nat.reduceLT, Nat.reduceMul, Int.reduceToNat, Int.reduceGT, Int.reduceGE, Int.reduceNe, true_and, and_true, true_or, or_true, false_or, or_false, and_self, or_self, if_true, if_false, reduceIte, not_true_eq_false, not_false_eq_true, Int.reduceEq, Int.reduceNe, Int.reduceLT, Int.reduceLE, Int.reduceAdd, Int.reduceSub, Int.reduceMul, Int.reduceNeg, Nat.reduceAdd, Nat.reduceLeDiff, Nat.reduceEqDiff, ne_eq, List.length_cons, List.length_nil, Nat.reduceSub, f, h0, h1, h2, h3, h4, h5, h6, h7, h8, h9, h10, h11, h12, h13, h14, h15, h16, b0, b1, b2, b3, b4, b5, b6, b7, b8, b9, b10, b11, b12, b13, b14, b15, b16, show bI true = 1 from rfl, show bI false = 0 from rfl]
  exact hQ
set_option maxRecDepth 20000 in
theorem q_name' (hb : H 71 5 ≠ 0) : CC d MO_name [va 71] H Q = Q (vl 0) H := by
  refine CC_dt fun Q hQ => ?_
  simp only [en_MO_name, e_MO_name_0, k_MO_name_0, rr, sh, Nat.reduceLT, Nat.reduceMul, Int.reduceToNat, Int.reduceGT, Int.reduceGE, Int.reduceNe, true_and, and_true, true_or, or_true, false_or, or_false, and_self, or_self, if_true, if_false, reduceIte, not_true_eq_false, not_false_eq_true, Int.reduceEq, Int.reduceNe, Int.reduceLT, Int.reduceLE, Int.reduceAdd, Int.reduceSub, Int.reduceMul, Int.reduceNeg, Nat.reduceAdd, Nat.reduceLeDiff, Nat.reduceEqDiff, ne_eq, List.length_cons, List.length_nil, Nat.reduceSub, hb]
  exact hQ
theorem w_nm {v c : Int} (h : 0 ≤ v ∧ v < 1000000000) (h2 : -1 ≤ c ∧ c < 256) : w64 (w64 (w64 (w64 (27 * v) + c) - 97) + 1) = 27 * v + (c - 96) := by
  rw [w64_id (x := 27 * v) (by omega) (by omega), w64_id (x := 27 * v + c) (by omega) (by omega), w64_id (x := 27 * v + c - 97) (by omega) (by omega), w64_id (by omega) (by omega)]; omega
theorem nmV_ub {L : Nat → Int} : ∀ n : Nat, (∀ q : Nat, q < n → 1 ≤ L q ∧ L q ≤ 26) → 0 ≤ nmV L n ∧ nmV L n < 27 ^ n
  | 0, _ => ⟨Int.le_refl 0, by show (0 : Int) < 27 ^ 0; decide⟩
  | n + 1, h => by
    have h1 := nmV_ub n (fun q hq => h q (by omega))
    have h2 := h n (by omega)
    rw [Int.pow_succ]
    show 0 ≤ 27 * nmV L n + L n ∧ 27 * nmV L n + L n < 27 ^ n * 27
    generalize nmV L n = y at *
    generalize (27 : Int) ^ n = T at *
    omega
theorem nmV_bd {L : Nat → Int} {n : Nat} (hn : n ≤ 6) (h : ∀ q : Nat, q < n → 1 ≤ L q ∧ L q ≤ 26) : 0 ≤ nmV L n ∧ nmV L n < 1000000000 := by
  have h1 := nmV_ub n h
  have h2 : ∀ n : Nat, n ≤ 6 → (27 : Int) ^ n ≤ 387420489 := by decide
  have h3 := h2 n hn
  generalize (27 : Int) ^ n = T at *
  omega
set_option maxRecDepth 20000 in
theorem x_nameM (hT : TapeR V) (hP : Ptr H) (hW : Wds H) {a : Nat} {j : Int} (hM : MRd V H a j)
    (he : ∀ kk pl, nmO V a j = .error (kk, pl) → ∀ H', Fx sMM H H' → H' 71 5 = kk → H' 71 6 = pl → Q (vl 0) H')
    (ho : ∀ e x, nmO V a j = .ok (e, x) → ∀ H', Fx sMM H H' → MRd V H' e e → H' 71 28 = skE V a → Q (vl x) H') : CC (d + 3) MO_name [va 71] H Q := by
  obtain ⟨h1, h2, h4, h5, h6, hn⟩ := id hM
  have n16 := tpN_le hT
  have s := skE_rng hn
  have e := enE_rng hn
  have hM1 := hM.mv s.2
  have f1 : Fx sMM H (hs H 71 2 (skE V a)) := Fx.rf.hs (c := 71) (j := 2) rfl
  have hP1 : Ptr (hs H 71 2 (skE V a)) := ptr_fx hP f1 (by decide +kernel)
  have hW1 : Wds (hs H 71 2 (skE V a)) := wds_fx hW f1 (by decide +kernel)
  have b2 : hs H 71 2 (skE V a) 71 2 = skE V a := hs_same
  have b4 : hs H 71 2 (skE V a) 71 4 = j := hM1.2.2.1
  have b5 : hs H 71 2 (skE V a) 71 5 = 0 := hM1.2.2.2.1
  have b6 : hs H 71 2 (skE V a) 71 6 = -1 := hM1.2.2.2.2.1
  have qo : ∀ {Q : AV → Hp → Prop}, CC (d + 2) MO_isOwnHere [va 71] (hs H 71 2 (skE V a)) Q = Q (vi (if wrI V (skE V a) j OW = -1 then 0 else 1)) (hs H 71 2 (skE V a)) := fun {Q} => q_isOwnHere hT hP1 hW1 hM1 (skE_sk hn)
  have ew : wrI V (skE V a) j OW = wrI V a j OW := by
    unfold wrI ltH
    rw [skE_sk hn, enE_sk hn]
  rw [ew] at qo
  have no : nmO V a j = .error (1, (skE V a : Int)) → Q (vl 0) (hs (hs (hs H 71 2 (skE V a)) 71 5 1) 71 6 (skE V a)) := fun z => he 1 (skE V a) z _ ((f1.hs (c := 71) (j := 5) rfl).hs (c := 71) (j := 6) rfl) ((hs2 (by decide)).trans hs_same) hs_same
  by_cases c1 : ltB (bz V (skE V a)) = true
  · by_cases c2 : (skE V a : Int) = j
    · have z := no (by
        unfold nmO ltH
        rw [if_neg (fun z => by have := z.1; rw [decide_eq_false (fun w => w c2), Bool.and_false] at this; cases this)])
      subst c2
      simp only [en_MO_name, e_MO_name_0, k_MO_name_0, e_MO_name_1, k_MO_name_1, e_MO_name_2, k_MO_name_2, rr, sh, Nat.reduceLT, Nat.reduceMul, Int.reduceToNat, Int.reduceGT, Int.reduceGE, Int.reduceNe, true_and, and_true, true_or, or_true, false_or, or_false, and_self, or_self, if_true, if_false, reduceIte, not_true_eq_false, not_false_eq_true, Int.reduceEq, Int.reduceNe, Int.reduceLT, Int.reduceLE, Int.reduceAdd, Int.reduceSub, Int.reduceMul, Int.reduceNeg, Nat.reduceAdd, Nat.reduceLeDiff, Nat.reduceEqDiff, ne_eq, List.length_cons, List.length_nil, Nat.reduceSub, h5, q_look hT h1 h2 hn, q_isLetterM, c1, show bI true = 1 from rfl, b2, b4, q_failM b5]
      exact z
    · have cl : ltH V a j = true := by unfold ltH; rw [c1, decide_eq_true c2]; rfl
      by_cases c3 : wrI V a j OW = -1
      · rw [if_pos c3] at qo
        simp only [en_MO_name, e_MO_name_0, k_MO_name_0, e_MO_name_1, k_MO_name_1, e_MO_name_3, k_MO_name_3, rr, sh, Nat.reduceLT, Nat.reduceMul, Int.reduceToNat, Int.reduceGT, Int.reduceGE, Int.reduceNe, true_and, and_true, true_or, or_true, false_or, or_false, and_self, or_self, if_true, if_false, reduceIte, not_true_eq_false, not_false_eq_true, Int.reduceEq, Int.reduceNe, Int.reduceLT, Int.reduceLE, Int.reduceAdd, Int.reduceSub, Int.reduceMul, Int.reduceNeg, Nat.reduceAdd, Nat.reduceLeDiff, Nat.reduceEqDiff, ne_eq, List.length_cons, List.length_nil, Nat.reduceSub, h5, q_look hT h1 h2 hn, q_isLetterM, c1, show bI true = 1 from rfl, b2, b4, c2, qo]
        have F2 : Fx sMM H (hs (hs H 71 2 (skE V a)) 71 28 (skE V a)) := f1.hs (c := 71) (j := 28) rfl
        have all : ∀ q : Nat, q < enE V a - skE V a → 1 ≤ lrN V a q ∧ lrN V a q ≤ 26 := by
          intro q hq
          unfold lrN
          rw [if_pos hq]
          have := ltB_rng (enE_lt (V := V) (a := a) (i := q) (Nat.add_lt_of_lt_sub' hq))
          clear qo no
          omega
        clear qo no
        have tl : ∀ {H' : Hp}, Fx sMM H H' → TmV V H' := fun {H'} hF => ⟨(hF 71 0 rfl).trans h1.1, (hF 71 3 rfl).trans h1.2.1, (hF.cell 72 (fun _ => rfl)).trans h1.2.2⟩
        have mx : ∃ m : Nat, m ≤ 6 ∧ m ≤ enE V a - skE V a ∧ (enE V a - skE V a ≤ 6 → m = enE V a - skE V a) ∧ (¬ enE V a - skE V a ≤ 6 → m = 6) := by
          by_cases c : enE V a - skE V a ≤ 6
          · exact ⟨_, c, Nat.le_refl _, fun _ => rfl, fun z => absurd c z⟩
          · exact ⟨6, Nat.le_refl _, Nat.le_of_lt (Nat.not_le.mp c), fun z => absurd z c, fun _ => rfl⟩
        obtain ⟨m, m6, mn, my, mz⟩ := mx
        have st : ∀ k : Nat, k ≤ 6 → skE V a + k < 100000 := fun k hk => Nat.lt_of_le_of_lt (Nat.add_le_add (Nat.le_trans s.2 n16) hk) (by decide)
        refine up_nat (P := fun k => ∀ H', Fx sMM H H' → H' 71 2 = ((skE V a + k : Nat) : Int) → H' 71 4 = j → H' 71 5 = 0 → H' 71 6 = -1 → H' 71 28 = skE V a → R (d + 3) MO_name (blk MO_name 4) [va 71, vl (nmV (lrN V a) k), vu] [] H' Q) (n := m) ?_ ?_ 0 (Nat.zero_le m) _ F2 ((hs2 (by decide)).trans b2) ((hs2 (by decide)).trans b4) ((hs2 (by decide)).trans b5) ((hs2 (by decide)).trans b6) hs_same
        · intro H' hF a2 a4 a5 a6 a28
          have hv := tl hF
          have g0 := hv.1
          have g3 := hv.2.1
          by_cases c6 : enE V a - skE V a ≤ 6
          · have em := my c6
            have ee : skE V a + m = enE V a := by rw [em]; exact Nat.add_sub_cancel' e.2.2
            rw [ee] at a2
            have eo : nmO V a j = .ok (enE V a, nmV (lrN V a) m) := by
              unfold nmO
              rw [if_pos ⟨cl, c3⟩, if_pos c6, em]
              rfl
            have F3 : Fx sMM H (hs H' 71 4 (enE V a)) := hF.hs (c := 71) (j := 4) rfl
            have M3 : MRd V (hs H' 71 4 (enE V a)) (enE V a) (enE V a) := ⟨hv.hs (by decide), (hs2 (by decide)).trans a2, hs_same, (hs2 (by decide)).trans a5, (hs2 (by decide)).trans a6, e.2.1⟩
            have z := ho _ _ eo _ F3 M3 ((hs2 (by decide)).trans a28)
            rw [e_MO_name_4]
            by_cases kt : enE V a < tpN V
            · have c7 : ¬ (tpN V : Int) ≤ (enE V a : Int) := il_n kt
              have j1 : 0 ≤ (enE V a : Int) ∧ (enE V a : Int) < 1600 := ix_n (Nat.lt_of_lt_of_le kt n16)
              have g2 := ma_72 hT hv kt
              simp only [k_MO_name_4, e_MO_name_6, k_MO_name_6, rr, sh, Nat.reduceLT, Nat.reduceMul, Int.reduceToNat, Int.reduceGT, Int.reduceGE, Int.reduceNe, true_and, and_true, true_or, or_true, false_or, or_false, and_self, or_self, if_true, if_false, reduceIte, not_true_eq_false, not_false_eq_true, Int.reduceEq, Int.reduceNe, Int.reduceLT, Int.reduceLE, Int.reduceAdd, Int.reduceSub, Int.reduceMul, Int.reduceNeg, Nat.reduceAdd, Nat.reduceLeDiff, Nat.reduceEqDiff, ne_eq, List.length_cons, List.length_nil, Nat.reduceSub, a2, g0, g2, g3, c7, j1, q_isLetterM, enE_nl hn, show bI false = 0 from rfl]
              exact z
            · have c7 : (tpN V : Int) ≤ (enE V a : Int) := il_y (Nat.not_lt.mp kt)
              simp only [k_MO_name_4, e_MO_name_6, k_MO_name_6, rr, sh, Nat.reduceLT, Nat.reduceMul, Int.reduceToNat, Int.reduceGT, Int.reduceGE, Int.reduceNe, true_and, and_true, true_or, or_true, false_or, or_false, and_self, or_self, if_true, if_false, reduceIte, not_true_eq_false, not_false_eq_true, Int.reduceEq, Int.reduceNe, Int.reduceLT, Int.reduceLE, Int.reduceAdd, Int.reduceSub, Int.reduceMul, Int.reduceNeg, Nat.reduceAdd, Nat.reduceLeDiff, Nat.reduceEqDiff, ne_eq, List.length_cons, List.length_nil, Nat.reduceSub, a2, g3, c7]
              exact z
          · have em := mz c6
            subst em
            have lt : ltB (bz V (skE V a + 6)) = true := enE_lt (Nat.add_lt_of_lt_sub' (Nat.not_le.mp c6))
            have kt : skE V a + 6 < tpN V := Nat.lt_of_lt_of_le (Nat.add_lt_of_lt_sub' (Nat.not_le.mp c6)) e.2.1
            have eo : nmO V a j = .error (1, ((skE V a + 6 : Nat) : Int)) := by
              unfold nmO
              rw [if_pos ⟨cl, c3⟩, if_neg c6]
            have c7 : ¬ (tpN V : Int) ≤ ((skE V a + 6 : Nat) : Int) := il_n kt
            have j1 : 0 ≤ ((skE V a + 6 : Nat) : Int) ∧ ((skE V a + 6 : Nat) : Int) < 1600 := ix_n (Nat.lt_of_lt_of_le kt n16)
            have g2 := ma_72 hT hv kt
            have sb := sub_bk (b := skE V a) (k := 6) (st 6 (by decide))
            rw [e_MO_name_4]
            simp only [k_MO_name_4, rr, sh, Nat.reduceLT, Nat.reduceMul, Int.reduceToNat, Int.reduceGT, Int.reduceGE, Int.reduceNe, true_and, and_true, true_or, or_true, false_or, or_false, and_self, or_self, if_true, if_false, reduceIte, not_true_eq_false, not_false_eq_true, Int.reduceEq, Int.reduceNe, Int.reduceLT, Int.reduceLE, Int.reduceAdd, Int.reduceSub, Int.reduceMul, Int.reduceNeg, Nat.reduceAdd, Nat.reduceLeDiff, Nat.reduceEqDiff, ne_eq, List.length_cons, List.length_nil, Nat.reduceSub, a2, a28, g0, g2, g3, c7, j1, q_isLetterM, lt, show bI true = 1 from rfl, sb, show ((6 : Nat) : Int) = 6 from rfl, q_failM a5]
            exact he _ _ eo _ ((hF.hs (c := 71) (j := 5) rfl).hs (c := 71) (j := 6) rfl) ((hs2 (by decide)).trans hs_same) hs_same
        · intro k hk ih H' hF a2 a4 a5 a6 a28
          have hv := tl hF
          have g0 := hv.1
          have g3 := hv.2.1
          have kn : k < enE V a - skE V a := Nat.lt_of_lt_of_le hk mn
          have k6 : k < 6 := Nat.lt_of_lt_of_le hk m6
          have lt : ltB (bz V (skE V a + k)) = true := enE_lt (Nat.add_lt_of_lt_sub' kn)
          have kt : skE V a + k < tpN V := Nat.lt_of_lt_of_le (Nat.add_lt_of_lt_sub' kn) e.2.1
          have c7 : ¬ (tpN V : Int) ≤ ((skE V a + k : Nat) : Int) := il_n kt
          have j1 : 0 ≤ ((skE V a + k : Nat) : Int) ∧ ((skE V a + k : Nat) : Int) < 1600 := ix_n (Nat.lt_of_lt_of_le kt n16)
          have g2 := ma_72 hT hv kt
          have sb := sub_bk (b := skE V a) (k := k) (st k (Nat.le_of_lt k6))
          have k5 : ¬ (k : Int) = 6 := fun z => absurd (Int.ofNat_inj.mp z) (Nat.ne_of_lt k6)
          have bw := w32_s (n := skE V a + k) (Nat.lt_trans (st k (Nat.le_of_lt k6)) (by decide))
          have el : lrN V a k = bz V (skE V a + k) - 96 := if_pos kn
          have nw := w_nm (nmV_bd (L := lrN V a) (Nat.le_of_lt k6) (fun q hq => all q (Nat.lt_trans hq kn))) (bz_rng hT (skE V a + k))
          have nx : 27 * nmV (lrN V a) k + (bz V (skE V a + k) - 96) = nmV (lrN V a) (k + 1) := by rw [← el]; rfl
          rw [nx] at nw
          rw [e_MO_name_4]
          simp only [k_MO_name_4, e_MO_name_5, k_MO_name_5, rr, sh, Nat.reduceLT, Nat.reduceMul, Int.reduceToNat, Int.reduceGT, Int.reduceGE, Int.reduceNe, true_and, and_true, true_or, or_true, false_or, or_false, and_self, or_self, if_true, if_false, reduceIte, not_true_eq_false, not_false_eq_true, Int.reduceEq, Int.reduceNe, Int.reduceLT, Int.reduceLE, Int.reduceAdd, Int.reduceSub, Int.reduceMul, Int.reduceNeg, Nat.reduceAdd, Nat.reduceLeDiff, Nat.reduceEqDiff, ne_eq, List.length_cons, List.length_nil, Nat.reduceSub, a2, a28, g0, g2, g3, c7, j1, q_isLetterM, lt, show bI true = 1 from rfl, sb, k5, nw, bw]
          exact ih _ (hF.hs (c := 71) (j := 2) rfl) hs_same ((hs2 (by decide)).trans a4) ((hs2 (by decide)).trans a5) ((hs2 (by decide)).trans a6) ((hs2 (by decide)).trans a28)
      · rw [if_neg c3] at qo
        have z := no (by unfold nmO; rw [if_neg (fun z => c3 z.2)])
        simp only [en_MO_name, e_MO_name_0, k_MO_name_0, e_MO_name_1, k_MO_name_1, e_MO_name_2, k_MO_name_2, rr, sh, Nat.reduceLT, Nat.reduceMul, Int.reduceToNat, Int.reduceGT, Int.reduceGE, Int.reduceNe, true_and, and_true, true_or, or_true, false_or, or_false, and_self, or_self, if_true, if_false, reduceIte, not_true_eq_false, not_false_eq_true, Int.reduceEq, Int.reduceNe, Int.reduceLT, Int.reduceLE, Int.reduceAdd, Int.reduceSub, Int.reduceMul, Int.reduceNeg, Nat.reduceAdd, Nat.reduceLeDiff, Nat.reduceEqDiff, ne_eq, List.length_cons, List.length_nil, Nat.reduceSub, h5, q_look hT h1 h2 hn, q_isLetterM, c1, show bI true = 1 from rfl, b2, b4, c2, qo, q_failM b5]
        exact z
  · have c1' : ltB (bz V (skE V a)) = false := by simpa using c1
    have z := no (by
      unfold nmO ltH
      rw [if_neg (fun z => by have := z.1; rw [c1', Bool.false_and] at this; cases this)])
    simp only [en_MO_name, e_MO_name_0, k_MO_name_0, e_MO_name_1, k_MO_name_1, e_MO_name_2, k_MO_name_2, rr, sh, Nat.reduceLT, Nat.reduceMul, Int.reduceToNat, Int.reduceGT, Int.reduceGE, Int.reduceNe, true_and, and_true, true_or, or_true, false_or, or_false, and_self, or_self, if_true, if_false, reduceIte, not_true_eq_false, not_false_eq_true, Int.reduceEq, Int.reduceNe, Int.reduceLT, Int.reduceLE, Int.reduceAdd, Int.reduceSub, Int.reduceMul, Int.reduceNeg, Nat.reduceAdd, Nat.reduceLeDiff, Nat.reduceEqDiff, ne_eq, List.length_cons, List.length_nil, Nat.reduceSub, h5, q_look hT h1 h2 hn, q_isLetterM, c1', show bI false = 0 from rfl, b2, q_failM b5]
    exact z
end PH
