/-! THE BOAT'S TEXT: a name, both sides -/
theorem runE_stop {p : Int → Bool} {V : Hp} : ∀ (f a : Nat), p (bz V (runE p V f a)) = true → runE p V f a = a + f
  | 0, _, _ => rfl
  | f + 1, a, h => by
    have e : runE p V (f + 1) a = if p (bz V a) = true then runE p V f (a + 1) else a := rfl
    rw [e] at h ⊢
    by_cases c : p (bz V a) = true
    · rw [if_pos c] at h ⊢
      rw [runE_stop f (a + 1) h]; omega
    · rw [if_neg c] at h
      exact absurd h c
theorem runE_all {p : Int → Bool} {V : Hp} : ∀ (f a i : Nat), a + i < runE p V f a → p (bz V (a + i)) = true
  | 0, a, i, h => absurd h (Nat.not_lt.mpr (Nat.le_add_right a i))
  | f + 1, a, i, h => by
    have h : a + i < (if p (bz V a) = true then runE p V f (a + 1) else a) := h
    split at h
    · next c =>
      cases i with
      | zero => exact c
      | succ i =>
        rw [show a + (i + 1) = a + 1 + i by omega] at h ⊢
        exact runE_all f (a + 1) i h
    · omega
theorem skE_nb {V : Hp} {a : Nat} (hn : a ≤ tpN V) : blB (bz V (skE V a)) = false := by
  cases h : blB (bz V (skE V a)) with
  | false => rfl
  | true =>
    have e := runE_stop (p := blB) (V := V) (tpN V - a) a h
    have e2 : skE V a = tpN V := by
      have : skE V a = a + (tpN V - a) := e
      omega
    rw [e2, blB_no (Nat.le_refl _)] at h
    cases h
theorem skE_sk {V : Hp} {a : Nat} (hn : a ≤ tpN V) : skE V (skE V a) = skE V a := skE_no (skE_nb hn)
theorem weE_nl {V : Hp} {a : Nat} (hn : a ≤ tpN V) : ltB (bz V (weE V a)) = false := by
  cases h : ltB (bz V (weE V a)) with
  | false => rfl
  | true =>
    have e := runE_stop (p := ltB) (V := V) (tpN V - a) a h
    have e2 : weE V a = tpN V := by
      have : weE V a = a + (tpN V - a) := e
      omega
    rw [e2, bz_past (Nat.le_refl _)] at h
    cases h
theorem enE_lt {V : Hp} {a i : Nat} (h : skE V a + i < enE V a) : ltB (bz V (skE V a + i)) = true := runE_all (p := ltB) (V := V) (tpN V - skE V a) (skE V a) i h
theorem enE_nl {V : Hp} {a : Nat} (hn : a ≤ tpN V) : ltB (bz V (enE V a)) = false := weE_nl (skE_rng hn).2
theorem enE_sk {V : Hp} {a : Nat} (hn : a ≤ tpN V) : enE V (skE V a) = enE V a := by unfold enE; rw [skE_sk hn]
theorem hereB_sk {V : Hp} {a : Nat} (hn : a ≤ tpN V) {j : Int} {w : List Int} : hereB V (skE V a) j w = hereB V a j w := by unfold hereB; rw [skE_sk hn]
theorem ltH_gt {V : Hp} {a : Nat} (hn : a ≤ tpN V) {j : Int} (h : ltH V a j = true) : skE V a < enE V a := by
  unfold ltH at h
  rw [Bool.and_eq_true] at h
  have lt : skE V a < tpN V := by
    apply Classical.byContradiction
    intro z
    rw [bz_past (Nat.not_lt.mp z)] at h
    exact absurd h.1 (by decide)
  have : enE V a = weE V (skE V a + 1) := weE_go lt h.1
  rw [this]
  exact Nat.lt_of_lt_of_le (Nat.lt_succ_self _) (weE_rng lt).1
theorem ltB_rng {c : Int} (h : ltB c = true) : 97 ≤ c ∧ c ≤ 122 := of_decide_eq_true h
/-- the letters of the name behind the blanks at a, and its number -/
def lrN (V : Hp) (a q : Nat) : Int := if q < enE V a - skE V a then bz V (skE V a + q) - 96 else 0
def nmT (V : Hp) (a : Nat) : Int := nmV (lrN V a) (enE V a - skE V a)
def dupN (P : Hp) (x : Int) : Nat → Bool
  | 0 => false
  | n + 1 => dupN P x n || decide (P 95 n = x)
theorem dup_iff {P : Hp} {x : Int} : ∀ n : Nat, dupN P x n = true ↔ ∃ r : Nat, r < n ∧ P 95 r = x
  | 0 => ⟨fun h => (by cases h), fun ⟨_, h, _⟩ => absurd h (Nat.not_lt_zero _)⟩
  | n + 1 => by
    show (dupN P x n || decide (P 95 n = x)) = true ↔ _
    rw [Bool.or_eq_true, dup_iff n, decide_eq_true_eq]
    constructor
    · rintro (⟨r, h1, h2⟩ | h)
      · exact ⟨r, by omega, h2⟩
      · exact ⟨n, by omega, h⟩
    · rintro ⟨r, h1, h2⟩
      by_cases c : r = n
      · subst c; exact Or.inr h2
      · exact Or.inl ⟨r, by omega, h2⟩
theorem dup_no {P : Hp} {x : Int} {n : Nat} (h : ∀ r : Nat, r < n → P 95 r ≠ x) : dupN P x n = false := by
  cases c : dupN P x n with
  | false => rfl
  | true => obtain ⟨r, h1, h2⟩ := (dup_iff n).mp c; exact absurd h2 (h r h1)
def nameO (V : Hp) (a : Nat) (j : Int) (P : Hp) : RdO :=
  if ltH V a j = true ∧ wrI V a j OW = -1 then
    if enE V a - skE V a ≤ 6 then
      if dupN P (nmT V a) (rTx P) = true then .error (3, (skE V a : Int)) else .ok (enE V a, nmT V a)
    else .error (1, ((skE V a + 6 : Nat) : Int))
  else .error (1, (skE V a : Int))
theorem nameO_er {V : Hp} {a : Nat} {j : Int} {P : Hp} {kk p : Int} (h : nameO V a j P = .error (kk, p)) : kk ≠ 0 := by
  unfold nameO at h
  split at h
  · split at h
    · split at h
      · cases h; decide
      · cases h
    · cases h; decide
  · cases h; decide
theorem nmV_gt {L : Nat → Int} : ∀ n : Nat, (∀ q : Nat, q < n → 1 ≤ L q ∧ L q ≤ 26) → 0 ≤ nmV L n ∧ (0 < n → 1 ≤ nmV L n)
  | 0, _ => ⟨Int.le_refl 0, fun h => absurd h (Nat.lt_irrefl 0)⟩
  | n + 1, h => by
    have h1 := (nmV_gt n (fun q hq => h q (by omega))).1
    have h2 := h n (by omega)
    show 0 ≤ 27 * nmV L n + L n ∧ (0 < n + 1 → 1 ≤ 27 * nmV L n + L n)
    generalize nmV L n = y at *
    omega
theorem nm_inj {L L' : Nat → Int} : ∀ n n' : Nat, (∀ q : Nat, q < n → 1 ≤ L q ∧ L q ≤ 26) → (∀ q : Nat, q < n' → 1 ≤ L' q ∧ L' q ≤ 26) → nmV L n = nmV L' n' → n = n' ∧ ∀ q : Nat, q < n → L q = L' q
  | 0, 0, _, _, _ => ⟨rfl, fun q hq => absurd hq (Nat.not_lt_zero q)⟩
  | 0, n' + 1, _, h', e => by
    have := (nmV_gt (n' + 1) h').2 (Nat.succ_pos _)
    rw [← e] at this
    exact absurd this (by show ¬ (1 : Int) ≤ 0; decide)
  | n + 1, 0, h, _, e => by
    have := (nmV_gt (n + 1) h).2 (Nat.succ_pos _)
    rw [e] at this
    exact absurd this (by show ¬ (1 : Int) ≤ 0; decide)
  | n + 1, n' + 1, h, h', e => by
    have e : 27 * nmV L n + L n = 27 * nmV L' n' + L' n' := e
    have h1 := h n (by omega)
    have h2 := h' n' (by omega)
    have ih := nm_inj n n' (fun q hq => h q (by omega)) (fun q hq => h' q (by omega))
    generalize nmV L n = y at *
    generalize nmV L' n' = y' at *
    have e1 : y = y' ∧ L n = L' n' := by clear ih h h'; omega
    obtain ⟨i1, i2⟩ := ih e1.1
    subst i1
    refine ⟨rfl, fun q hq => ?_⟩
    by_cases c : q = n
    · rw [c]; exact e1.2
    · exact i2 q (by omega)
theorem lrN_nm {V : Hp} {a : Nat} (hn : a ≤ tpN V) {j : Int} (h : ltH V a j = true) (h6 : enE V a - skE V a ≤ 6) : NmT (nmT V a) (lrN V a) := by
  have g := ltH_gt hn h
  refine ⟨enE V a - skE V a, by omega, h6, rfl, fun q hq => ?_, fun q hq hq2 => ?_⟩
  · unfold lrN
    rw [if_pos hq]
    have := ltB_rng (enE_lt (V := V) (a := a) (i := q) (by omega))
    omega
  · unfold lrN
    rw [if_neg (by omega)]
theorem nm_eq {x y : Int} {L L' : Nat → Int} (h : NmT x L) (h' : NmT y L') : x = y ↔ ∀ q : Nat, q < 6 → L q = L' q := by
  obtain ⟨n, h1, h2, h3, h4, h5⟩ := h
  obtain ⟨n', i1, i2, i3, i4, i5⟩ := h'
  constructor
  · intro e
    obtain ⟨j1, j2⟩ := nm_inj n n' h4 i4 (by rw [← h3, ← i3]; exact e)
    subst j1
    intro q hq
    by_cases c : q < n
    · exact j2 q c
    · rw [h5 q (by omega) hq, i5 q (by omega) hq]
  · intro e
    have : n = n' := by
      apply Classical.byContradiction
      intro z
      by_cases c : n < n'
      · have := h5 n (Nat.le_refl _) (by omega)
        have := i4 n c
        have := e n (by omega)
        omega
      · have := i5 n' (Nat.le_refl _) (by omega)
        have := h4 n' (by omega)
        have := e n' (by omega)
        omega
    subst this
    rw [h3, i3]
    exact nmV_cg n (fun q hq => e q (by omega))
/-- what the class's reading of a text writes -/
def sCX (p a b : Int) : Bool := sLX a b || sPX p a b
theorem sLX_cx (p a b : Int) (h : sLX a b = true) : sCX p a b = true := by unfold sCX; rw [h]; rfl
theorem sPX_cx (p a b : Int) (h : sPX p a b = true) : sCX p a b = true := by unfold sCX; rw [h, Bool.or_true]
section PF
variable {d : Nat} {V P H : Hp} {p : Int} {Q : AV → Hp → Prop}
theorem ptr_cx (hp : p = 5 ∨ p = 25) {H' : Hp} (h : Ptr H) (hF : Fx (sCX p) H H') : Ptr H' := by
  rcases hp with rfl | rfl
  · exact ptr_fx h hF (by decide +kernel)
  · exact ptr_fx h hF (by decide +kernel)
set_option maxRecDepth 20000 in
theorem q_isName (hp : p = 5 ∨ p = 25) (hP : Ptr H) (hT : TapeR V) (hC : TpV V H) {a : Nat} (hn : a ≤ tpN V) (h2 : H 2 2 = skE V a) {L : Nat → Int} {r : Nat} (hr : r < 12) (hL : ∀ q : Nat, q < 6 → H (p + 4) ((6 * r + q : Nat) : Int) = L q) : CC (d + 1) BT_isName [va 2, va p, vi r, vi (enE V a)] H Q = Q (vi (if ∀ q : Nat, q < 6 → L q = lrN V a q then 1 else 0)) H := by
  refine CC_dt fun Q hQ => ?_
  have g := pp_f hp hP
  have n16 := tpN_le hT
  have s := skE_rng hn
  have e := enE_rng hn
  have x1 : shc p = 5 := g.1
  simp only [en_BT_isName, e_BT_isName_0, k_BT_isName_0, rr, sh, Nat.reduceLT, Nat.reduceMul, Int.reduceToNat, Int.reduceGT, Int.reduceGE, Int.reduceNe, true_and, and_true, true_or, or_true, false_or, or_false, and_self, or_self, if_true, if_false, reduceIte, not_true_eq_false, not_false_eq_true, Int.reduceEq, Int.reduceNe, Int.reduceLT, Int.reduceLE, Int.reduceAdd, Int.reduceSub, Int.reduceMul, Int.reduceNeg, Nat.reduceAdd, Nat.reduceLeDiff, Nat.reduceEqDiff, ne_eq, List.length_cons, List.length_nil, Nat.reduceSub]
  refine up_nat (P := fun k => ∀ y : AV, (∀ q : Nat, q < k → L q = lrN V a q) → R (d + 1) BT_isName (blk BT_isName 1) [va 2, va p, vi r, vi (enE V a), vi k, y] [] H Q) (n := 6) ?_ ?_ 0 (by decide) vu (fun q hq => absurd hq (Nat.not_lt_zero q))
  · intro y h
    rw [if_pos h] at hQ
    rw [e_BT_isName_1]
    simp only [k_BT_isName_1, e_BT_isName_5, k_BT_isName_5, rr, sh, Nat.reduceLT, Nat.reduceMul, Int.reduceToNat, Int.reduceGT, Int.reduceGE, Int.reduceNe, true_and, and_true, true_or, or_true, false_or, or_false, and_self, or_self, if_true, if_false, reduceIte, not_true_eq_false, not_false_eq_true, Int.reduceEq, Int.reduceNe, Int.reduceLT, Int.reduceLE, Int.reduceAdd, Int.reduceSub, Int.reduceMul, Int.reduceNeg, Nat.reduceAdd, Nat.reduceLeDiff, Nat.reduceEqDiff, ne_eq, List.length_cons, List.length_nil, Nat.reduceSub, show (6 : Int) ≤ ((6 : Nat) : Int) by decide]
    exact hQ
  · intro k hk ih y h
    have c1 : ¬ (6 : Int) ≤ (k : Int) := by clear ih h hQ hL; omega
    have b1 : skE V a + k < 2147483648 := Nat.lt_of_le_of_lt (Nat.add_le_add (Nat.le_trans s.2 n16) (Nat.le_of_lt hk)) (by decide)
    have b2 : 6 * r + k < 72 := by clear ih h hQ hL b1; omega
    have hk4 := hL k hk
    have kw := w32_s (n := k) (Nat.lt_trans hk (by decide))
    have w1 : w32 ((skE V a : Int) + k) = ((skE V a + k : Nat) : Int) := w_add b1
    have w2 : w32 (w32 ((r : Int) * 6) + k) = ((6 * r + k : Nat) : Int) := by rw [w_mul6 (Nat.lt_trans hr (by decide)), w_add (Nat.lt_trans b2 (by decide))]
    have j2 : 0 ≤ ((6 * r + k : Nat) : Int) ∧ ((6 * r + k : Nat) : Int) < 72 := ix_n b2
    have w3 := w_let (bz_rng hT (skE V a + k))
    have no : L k ≠ lrN V a k → Q (vi 0) H := by
      intro z
      rw [if_neg (fun w => z (w k hk))] at hQ
      exact hQ
    have go : L k = lrN V a k → ∀ y, R (d + 1) BT_isName (blk BT_isName 1) [va 2, va p, vi r, vi (enE V a), vi ((k + 1 : Nat) : Int), y] [] H Q := by
      intro z y
      refine ih y (fun q hq => ?_)
      by_cases c : q = k
      · rw [c]; exact z
      · exact h q (lt_sN hq c)
    clear hQ ih hL
    rw [e_BT_isName_1]
    by_cases ck : k < enE V a - skE V a
    · have c2 : ¬ (enE V a : Int) ≤ ((skE V a + k : Nat) : Int) := il_n (Nat.add_lt_of_lt_sub' ck)
      have el : lrN V a k = bz V (skE V a + k) - 96 := if_pos ck
      rw [el] at no go
      by_cases cl : L k = bz V (skE V a + k) - 96
      · have := go cl
        simp only [k_BT_isName_1, e_BT_isName_3, k_BT_isName_3, e_BT_isName_4, k_BT_isName_4, rr, sh, Nat.reduceLT, Nat.reduceMul, Int.reduceToNat, Int.reduceGT, Int.reduceGE, Int.reduceNe, true_and, and_true, true_or, or_true, false_or, or_false, and_self, or_self, if_true, if_false, reduceIte, not_true_eq_false, not_false_eq_true, Int.reduceEq, Int.reduceNe, Int.reduceLT, Int.reduceLE, Int.reduceAdd, Int.reduceSub, Int.reduceMul, Int.reduceNeg, Nat.reduceAdd, Nat.reduceLeDiff, Nat.reduceEqDiff, ne_eq, List.length_cons, List.length_nil, Nat.reduceSub, g, h2, c1, w1, c2, q_byteZ hT hC, w3, w2, j2, hk4, cl, kw]
        exact this _
      · simp only [k_BT_isName_1, e_BT_isName_3, k_BT_isName_3, e_BT_isName_4, k_BT_isName_4, rr, sh, Nat.reduceLT, Nat.reduceMul, Int.reduceToNat, Int.reduceGT, Int.reduceGE, Int.reduceNe, true_and, and_true, true_or, or_true, false_or, or_false, and_self, or_self, if_true, if_false, reduceIte, not_true_eq_false, not_false_eq_true, Int.reduceEq, Int.reduceNe, Int.reduceLT, Int.reduceLE, Int.reduceAdd, Int.reduceSub, Int.reduceMul, Int.reduceNeg, Nat.reduceAdd, Nat.reduceLeDiff, Nat.reduceEqDiff, ne_eq, List.length_cons, List.length_nil, Nat.reduceSub, g, h2, c1, w1, c2, q_byteZ hT hC, w3, w2, j2, hk4, cl]
        exact no cl
    · have c2 : (enE V a : Int) ≤ ((skE V a + k : Nat) : Int) := il_y (Nat.sub_le_iff_le_add'.mp (Nat.not_lt.mp ck))
      have el : lrN V a k = 0 := if_neg ck
      rw [el] at no go
      by_cases cl : L k = 0
      · have := go cl
        simp only [k_BT_isName_1, e_BT_isName_2, k_BT_isName_2, e_BT_isName_3, k_BT_isName_3, e_BT_isName_4, k_BT_isName_4, rr, sh, Nat.reduceLT, Nat.reduceMul, Int.reduceToNat, Int.reduceGT, Int.reduceGE, Int.reduceNe, true_and, and_true, true_or, or_true, false_or, or_false, and_self, or_self, if_true, if_false, reduceIte, not_true_eq_false, not_false_eq_true, Int.reduceEq, Int.reduceNe, Int.reduceLT, Int.reduceLE, Int.reduceAdd, Int.reduceSub, Int.reduceMul, Int.reduceNeg, Nat.reduceAdd, Nat.reduceLeDiff, Nat.reduceEqDiff, ne_eq, List.length_cons, List.length_nil, Nat.reduceSub, g, h2, c1, w1, c2, w2, j2, hk4, cl, kw]
        exact this _
      · simp only [k_BT_isName_1, e_BT_isName_2, k_BT_isName_2, e_BT_isName_3, k_BT_isName_3, e_BT_isName_4, k_BT_isName_4, rr, sh, Nat.reduceLT, Nat.reduceMul, Int.reduceToNat, Int.reduceGT, Int.reduceGE, Int.reduceNe, true_and, and_true, true_or, or_true, false_or, or_false, and_self, or_self, if_true, if_false, reduceIte, not_true_eq_false, not_false_eq_true, Int.reduceEq, Int.reduceNe, Int.reduceLT, Int.reduceLE, Int.reduceAdd, Int.reduceSub, Int.reduceMul, Int.reduceNeg, Nat.reduceAdd, Nat.reduceLeDiff, Nat.reduceEqDiff, ne_eq, List.length_cons, List.length_nil, Nat.reduceSub, g, h2, c1, w1, c2, w2, j2, hk4, cl]
        exact no cl
end PF
