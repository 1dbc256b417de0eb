/-! THE BOAT'S TEXT: the plan as it is told so far, in the reference's own cells (first halves) -/
def sTx (P : Hp) : Nat := (P 91 0).toNat
def rTx (P : Hp) : Nat := (P 91 1).toNat
def uTx (P : Hp) : Nat := (P 91 2).toNat
def yTx (P : Hp) : Nat := (P 91 3).toNat
def TxB (P : Hp) : Prop :=
  (P 91 0 = sTx P ∧ sTx P ≤ 12) ∧ (P 91 1 = rTx P ∧ rTx P ≤ 12) ∧ (P 91 2 = uTx P ∧ uTx P ≤ 8) ∧ (P 91 3 = yTx P ∧ yTx P ≤ 12) ∧
  (∀ k : Nat, k < sTx P → 1 ≤ P 92 k ∧ P 92 k ≤ 99) ∧ (∀ k : Nat, k < sTx P → 1 ≤ P 93 k ∧ P 93 k ≤ 99) ∧ (∀ k : Nat, k < sTx P → 0 ≤ P 94 k ∧ P 94 k ≤ 2) ∧
  (∀ k : Nat, k < rTx P → 1 ≤ P 96 k ∧ P 96 k ≤ 99) ∧ (∀ k : Nat, k < rTx P → 0 ≤ P 97 k ∧ P 97 k ≤ 9) ∧
  (-1 ≤ P 98 0 ∧ P 98 0 ≤ 12) ∧ (0 ≤ P 99 0 ∧ P 99 0 ≤ 9999) ∧
  (∀ q : Nat, q < 4 → P 100 q = 0 ∨ P 100 q = 1) ∧ (∀ q : Nat, q < 4 → P 100 q = 1 → -9999 ≤ P 101 q ∧ P 101 q ≤ 9999) ∧
  (∀ r : Nat, r < uTx P → 0 ≤ P 103 r ∧ P 103 r ≤ 3) ∧ (∀ r : Nat, r < uTx P → -99999 ≤ P 104 r ∧ P 104 r ≤ 99999) ∧
  (∀ k : Nat, k < yTx P → 1 ≤ P 105 k ∧ P 105 k ≤ 999) ∧ (∀ k : Nat, k < yTx P → 0 ≤ P 106 k ∧ P 106 k ≤ 999)
/-- a rower's name: its number from the letters that stand from i on -/
def NmT (x : Int) (L : Nat → Int) : Prop := ∃ n : Nat, 1 ≤ n ∧ n ≤ 6 ∧ x = nmV L n ∧ (∀ q : Nat, q < n → 1 ≤ L q ∧ L q ≤ 26) ∧ ∀ q : Nat, n ≤ q → q < 6 → L q = 0
def PlT (P H : Hp) (p : Int) : Prop :=
  (H p 0 = sTx P ∧ H p 6 = rTx P ∧ H p 13 = uTx P ∧ H p 17 = yTx P ∧ H p 10 = P 98 0 ∧ H p 12 = P 99 0) ∧
  ((∀ k : Nat, k < sTx P → H (p + 1) k = P 92 k) ∧ (∀ k : Nat, k < sTx P → H (p + 2) k = P 93 k) ∧
    (∀ q k : Nat, q < 4 → k < sTx P → H (p + 3) (12 * q + k) = P 93 k * P 92 k ^ q)) ∧
  (∃ f g : Nat, H p 4 = f ∧ H p 5 = g ∧ f < 2 ^ sTx P ∧ g < 2 ^ sTx P ∧ ∀ k : Nat, k < sTx P → (f.testBit k = decide (P 94 k = 1) ∧ g.testBit k = decide (P 94 k = 2))) ∧
  ((∀ k : Nat, k < rTx P → H (p + 5) k = P 96 k) ∧ (∀ k : Nat, k < rTx P → H (p + 6) k = P 97 k)) ∧
  (∀ q : Nat, q < 4 → H (p + 7) q = if P 100 q = 1 then P 101 q else -1000000000000000) ∧
  ((∀ r k : Nat, r < uTx P → k < 12 → H (p + 8) (12 * r + k) = if P 102 (12 * r + k) = 2 then 1 else if P 102 (12 * r + k) = 1 then -1 else 0) ∧ (∀ i : Nat, 12 * uTx P ≤ i → i < 96 → H (p + 8) i = 0)) ∧
  ((∀ r : Nat, r < uTx P → H (p + 9) r = P 103 r) ∧ (∀ r : Nat, r < uTx P → H (p + 10) r = P 104 r)) ∧
  ((∀ k : Nat, k < yTx P → H (p + 11) k = P 105 k) ∧ (∀ k : Nat, k < yTx P → H (p + 12) k = P 106 k)) ∧
  ((∀ r : Nat, r < rTx P → NmT (P 95 r) (fun q => H (p + 4) ((6 * r + q : Nat) : Int))) ∧ (∀ i : Nat, 6 * rTx P ≤ i → i < 72 → H (p + 4) i = 0))
/-- what the class's plan at p is written in -/
def sPX (p a b : Int) : Bool := (decide (a = p) && (decide (b = 0) || decide (b = 4) || decide (b = 5) || decide (b = 6) || decide (b = 10) || decide (b = 12) || decide (b = 13) || decide (b = 17))) || (decide (p < a) && decide (a ≤ p + 12))
/-- a first half's cell -/
def fh (a b : Int) : Bool := decide (0 ≤ b ∧ ((a = 91 ∧ b < 4) ∨ (92 ≤ a ∧ a ≤ 97 ∧ b < 12) ∨ (98 ≤ a ∧ a ≤ 99 ∧ b < 1) ∨ (100 ≤ a ∧ a ≤ 101 ∧ b < 4) ∨ (a = 102 ∧ b < 96) ∨ (103 ≤ a ∧ a ≤ 104 ∧ b < 8) ∨ (105 ≤ a ∧ a ≤ 106 ∧ b < 12)))
def TmP (P H : Hp) : Prop := ∀ a b, fh a b = true → H a b = P a b
/-- what the reference's reading of a text writes -/
def sTM (a b : Int) : Bool := (if a = 71 then (decide (b = 2) || decide (b = 4) || decide (b = 5) || decide (b = 6) || decide (b = 10) || decide (b = 28)) else fh a b)
theorem sLM_sTM (a b : Int) (h : sLM a b = true) : sTM a b = true := by
  unfold sLM at h
  by_cases c : a = 71
  · rw [if_pos c] at h
    unfold sTM
    rw [if_pos c]
    simp only [Bool.or_eq_true, decide_eq_true_eq] at h ⊢
    omega
  · rw [if_neg c] at h; cases h
section PA
variable {P H H' : Hp} {p : Int}
theorem TmP.put (h : TmP P H) {c j v : Int} : TmP (hs P c j v) (hs H c j v) := fun a b q => by
  rw [hs_app, hs_app]
  split
  · rfl
  · exact h a b q
theorem TmP.fx (h : TmP P H) {S : Int → Int → Bool} (hF : Fx S H H') (hS : ∀ a b, fh a b = true → S a b = false) : TmP P H' := fun a b q => (hF a b (hS a b q)).trans (h a b q)
theorem fh_71 {a b : Int} (h : fh a b = true) : a ≠ 71 := by
  have := of_decide_eq_true h
  omega
theorem fh12 {a : Int} {k : Nat} (ha : 92 ≤ a ∧ a ≤ 97 ∨ 105 ≤ a ∧ a ≤ 106) (hk : k < 12) : fh a k = true := decide_eq_true (by omega)
theorem sLM_fh (a b : Int) (h : fh a b = true) : sLM a b = false := by
  unfold sLM
  rw [if_neg (fh_71 h)]
theorem TmP.lm (h : TmP P H) (hF : Fx sLM H H') : TmP P H' := h.fx hF sLM_fh
theorem ptr_fx {S : Int → Int → Bool} (h : Ptr H) (hF : Fx S H H') (hs : ptL.all (fun q => !S q.1 q.2.1) = true) : Ptr H' := by
  intro q hq
  have := List.all_eq_true.mp hs q hq
  rw [hF q.1 q.2.1 (by simpa using this)]
  exact h q hq
theorem wds_fx {S : Int → Int → Bool} (h : Wds H) (hF : Fx S H H') (hs : wdL.all (fun q => !S q.1 q.2.1) = true) : Wds H' := by
  intro q hq
  have := List.all_eq_true.mp hs q hq
  rw [hF q.1 q.2.1 (by simpa using this)]
  exact h q hq
theorem ptr_tm (h : Ptr H) (hF : Fx sTM H H') : Ptr H' := ptr_fx h hF (by decide +kernel)
theorem wds_tm (h : Wds H) (hF : Fx sTM H H') : Wds H' := wds_fx h hF (by decide +kernel)
theorem ptr_lx (h : Ptr H) (hF : Fx sLX H H') : Ptr H' := ptr_fx h hF (by decide +kernel)
theorem ptr_px (hp : p = 5 ∨ p = 25) (h : Ptr H) (hF : Fx (sPX p) H H') : Ptr H' := by
  rcases hp with rfl | rfl
  · exact ptr_fx h hF (by decide +kernel)
  · exact ptr_fx h hF (by decide +kernel)
theorem sPX_a {i b : Int} (h : 1 ≤ i ∧ i ≤ 12) : sPX p (p + i) b = true := by
  unfold sPX
  rw [decide_eq_true (show p < p + i by omega), decide_eq_true (show p + i ≤ p + 12 by omega)]
  simp
theorem sPX_p {b : Int} (h : b = 0 ∨ b = 4 ∨ b = 5 ∨ b = 6 ∨ b = 10 ∨ b = 12 ∨ b = 13 ∨ b = 17) : sPX p p b = true := by
  unfold sPX
  rcases h with rfl | rfl | rfl | rfl | rfl | rfl | rfl | rfl <;> simp
theorem sPX_o {a b : Int} (h : a < p ∨ p + 12 < a) : sPX p a b = false := by
  unfold sPX
  rw [decide_eq_false (show ¬ a = p by omega), Bool.false_and, Bool.false_or]
  rcases h with h | h
  · rw [decide_eq_false (show ¬ p < a by omega), Bool.false_and]
  · rw [decide_eq_false (show ¬ a ≤ p + 12 by omega), Bool.and_false]
theorem CRd.px {V : Hp} {a : Nat} {j : Int} (hp : p = 5 ∨ p = 25) (h : CRd V H a j) (hF : Fx (sPX p) H H') : CRd V H' a j := by
  have e2 : H' 2 = H 2 := hF.cell 2 (fun b => sPX_o (by omega))
  have e3 : H' 3 = H 3 := hF.cell 3 (fun b => sPX_o (by omega))
  unfold CRd TpV at h ⊢
  rw [e2, e3]
  exact h
theorem PlT.cg (h : PlT P H p) (e : ∀ a, p ≤ a → a ≤ p + 12 → H' a = H a) : PlT P H' p := by
  have e0 := e p (by omega) (by omega)
  have e1 := e (p + 1) (by omega) (by omega)
  have e2 := e (p + 2) (by omega) (by omega)
  have e3 := e (p + 3) (by omega) (by omega)
  have e4 := e (p + 4) (by omega) (by omega)
  have e5 := e (p + 5) (by omega) (by omega)
  have e6 := e (p + 6) (by omega) (by omega)
  have e7 := e (p + 7) (by omega) (by omega)
  have e8 := e (p + 8) (by omega) (by omega)
  have e9 := e (p + 9) (by omega) (by omega)
  have e10 := e (p + 10) (by omega) (by omega)
  have e11 := e (p + 11) (by omega) (by omega)
  have e12 := e (p + 12) (by omega) (by omega)
  unfold PlT at h ⊢
  rw [e0, e1, e2, e3, e4, e5, e6, e7, e8, e9, e10, e11, e12]
  exact h
theorem PlT.lx (h : PlT P H p) (hp : p = 5 ∨ p = 25) (hF : Fx sLX H H') : PlT P H' p := by
  refine h.cg (fun a h1 h2 => hF.cell a (fun b => ?_))
  unfold sLX
  rw [if_neg (by omega)]
theorem pp_f (hp : p = 5 ∨ p = 25) (q : Ptr H) : shc p = 5 ∧ (H p 1 = p + 1 ∧ sht (p + 1) = 1 ∧ shl (p + 1) = 12) ∧ (H p 2 = p + 2 ∧ sht (p + 2) = 1 ∧ shl (p + 2) = 12) ∧ (H p 3 = p + 3 ∧ sht (p + 3) = 2 ∧ shl (p + 3) = 48) ∧ (H p 7 = p + 4 ∧ sht (p + 4) = 1 ∧ shl (p + 4) = 72) ∧ (H p 8 = p + 5 ∧ sht (p + 5) = 1 ∧ shl (p + 5) = 12) ∧ (H p 9 = p + 6 ∧ sht (p + 6) = 1 ∧ shl (p + 6) = 12) ∧ (H p 11 = p + 7 ∧ sht (p + 7) = 2 ∧ shl (p + 7) = 4) ∧ (H p 14 = p + 8 ∧ sht (p + 8) = 1 ∧ shl (p + 8) = 96) ∧ (H p 15 = p + 9 ∧ sht (p + 9) = 1 ∧ shl (p + 9) = 8) ∧ (H p 16 = p + 10 ∧ sht (p + 10) = 1 ∧ shl (p + 10) = 8) ∧ (H p 18 = p + 11 ∧ sht (p + 11) = 1 ∧ shl (p + 11) = 12) ∧ (H p 19 = p + 12 ∧ sht (p + 12) = 1 ∧ shl (p + 12) = 12) := by
  obtain ⟨g0, -, a1, a2, a3, -, b1, b2, b3, -, c1, c2, c3, -, d1, d2, d3, -, e1, e2, e3, -, f1, f2, f3, -, i1, i2, i3, -, j1, j2, j3, -, k1, k2, k3, -, l1, l2, l3, -, m1, m2, m3, -, n1, n2, n3, -⟩ := pl_f (Vw.rf (V := H)) hp q
  exact ⟨g0, ⟨a1, a2, a3⟩, ⟨b1, b2, b3⟩, ⟨c1, c2, c3⟩, ⟨d1, d2, d3⟩, ⟨e1, e2, e3⟩, ⟨f1, f2, f3⟩, ⟨i1, i2, i3⟩, ⟨j1, j2, j3⟩, ⟨k1, k2, k3⟩, ⟨l1, l2, l3⟩, ⟨m1, m2, m3⟩, ⟨n1, n2, n3⟩⟩
/-- a word's letters stand in the reference's cell -/
theorem chO (hW : Wds H) {i : Nat} (hi : i < 17) : ChW H (74 + i) (OW.getD i []) := by
  have h1 : ∀ i : Nat, i < 17 → sht (74 + i) = 4 ∧ shl (74 + i) = ((OW.getD i []).length : Nat) := by decide +kernel
  have h2 : ∀ i : Nat, i < 17 → ((List.range (OW.getD i []).length).all (fun k => wdL.contains ((74 : Int) + i, (k : Int), (OW.getD i []).getD k 0))) = true := by decide +kernel
  refine ⟨(h1 i hi).1, (h1 i hi).2, fun k hk => ?_⟩
  have h3 := List.all_eq_true.mp (h2 i hi) k (List.mem_range.mpr hk)
  exact hW _ (List.contains_iff_mem.mp h3)
theorem lnO {i : Nat} (hi : i < 17) : (OW.getD i []).length ≤ 100 ∧ OW.getD i [] ≠ [] := by
  have h : ∀ i : Nat, i < 17 → (OW.getD i []).length ≤ 100 ∧ OW.getD i [] ≠ [] := by decide +kernel
  exact h i hi
end PA
/-- the first seat at a place; -1 -/
def saN (P : Hp) (v : Int) : Nat → Nat → Int
  | 0, _ => -1
  | f + 1, k => if P 92 k = v then (k : Int) else saN P v f (k + 1)
def sAt (P : Hp) (v : Int) : Int := saN P v (sTx P) 0
theorem saN_rng {P : Hp} {v : Int} : ∀ (f k : Nat), saN P v f k = -1 ∨ ((k : Int) ≤ saN P v f k ∧ saN P v f k < ((k + f : Nat) : Int))
  | 0, k => Or.inl rfl
  | f + 1, k => by
    show (if P 92 k = v then (k : Int) else saN P v f (k + 1)) = -1 ∨ ((k : Int) ≤ (if P 92 k = v then (k : Int) else saN P v f (k + 1)) ∧ (if P 92 k = v then (k : Int) else saN P v f (k + 1)) < ((k + (f + 1) : Nat) : Int))
    split
    · exact Or.inr ⟨Int.le_refl _, by omega⟩
    · rcases saN_rng (P := P) (v := v) f (k + 1) with h | h
      · exact Or.inl h
      · exact Or.inr ⟨by omega, by omega⟩
theorem sAt_rng (P : Hp) (v : Int) : sAt P v = -1 ∨ (0 ≤ sAt P v ∧ sAt P v < sTx P) := by
  have := saN_rng (P := P) (v := v) (sTx P) 0
  unfold sAt
  rw [Nat.zero_add] at this
  exact this
section PB
variable {d : Nat} {P H : Hp} {p : Int} {Q : AV → Hp → Prop}
theorem q_seatAtC (hp : p = 5 ∨ p = 25) (hP : Ptr H) (hB : TxB P) (hL : PlT P H p) {v : Int} : CC d PL_seatAtPlace [va p, vi v] H Q = Q (vi (sAt P v)) H := by
  refine CC_dt fun Q hQ => ?_
  have g := pp_f hp hP
  have hn := hB.1
  have h0 := hL.1.1
  have h1 := hL.2.1.1
  simp only [en_PL_seatAtPlace, e_PL_seatAtPlace_0, k_PL_seatAtPlace_0, rr, sh, Nat.reduceLT, Nat.reduceMul, Int.reduceToNat, Int.reduceGT, Int.reduceGE, Int.reduceNe, true_and, and_true, true_or, or_true, false_or, or_false, and_self, or_self, if_true, if_false, reduceIte, not_true_eq_false, not_false_eq_true, Int.reduceEq, Int.reduceNe, Int.reduceLT, Int.reduceLE, Int.reduceAdd, Int.reduceSub, Int.reduceMul, Int.reduceNeg, Nat.reduceAdd, Nat.reduceLeDiff, Nat.reduceEqDiff, ne_eq, List.length_cons, List.length_nil, Nat.reduceSub]
  refine up_nat (P := fun k => saN P v (sTx P - k) k = sAt P v → R d PL_seatAtPlace (blk PL_seatAtPlace 1) [va p, vi v, vi k] [] H Q) (n := sTx P) ?_ ?_ 0 (Nat.zero_le _) rfl
  · intro e
    rw [Nat.sub_self] at e
    have e : (-1 : Int) = sAt P v := e
    rw [← e] at hQ
    rw [e_PL_seatAtPlace_1]
    simp only [k_PL_seatAtPlace_1, e_PL_seatAtPlace_3, k_PL_seatAtPlace_3, rr, sh, Nat.reduceLT, Nat.reduceMul, Int.reduceToNat, Int.reduceGT, Int.reduceGE, Int.reduceNe, true_and, and_true, true_or, or_true, false_or, or_false, and_self, or_self, if_true, if_false, reduceIte, not_true_eq_false, not_false_eq_true, Int.reduceEq, Int.reduceNe, Int.reduceLT, Int.reduceLE, Int.reduceAdd, Int.reduceSub, Int.reduceMul, Int.reduceNeg, Nat.reduceAdd, Nat.reduceLeDiff, Nat.reduceEqDiff, ne_eq, List.length_cons, List.length_nil, Nat.reduceSub, g, h0, Int.le_refl]
    exact hQ
  · intro k hk ih e
    obtain ⟨f, hf⟩ : ∃ f, sTx P - k = f + 1 := ⟨sTx P - k - 1, by omega⟩
    have hf' : sTx P - (k + 1) = f := by omega
    rw [hf] at e
    have e : (if P 92 k = v then (k : Int) else saN P v f (k + 1)) = sAt P v := e
    have c1 : ¬ (sTx P : Int) ≤ k := by omega
    have j1 : 0 ≤ (k : Int) ∧ (k : Int) < 12 := by omega
    have kw := w32_s (n := k) (by omega)
    have hk1 := h1 k hk
    rw [e_PL_seatAtPlace_1]
    by_cases c : P 92 k = v
    · rw [if_pos c] at e
      rw [← e] at hQ
      simp only [k_PL_seatAtPlace_1, rr, sh, Nat.reduceLT, Nat.reduceMul, Int.reduceToNat, Int.reduceGT, Int.reduceGE, Int.reduceNe, true_and, and_true, true_or, or_true, false_or, or_false, and_self, or_self, if_true, if_false, reduceIte, not_true_eq_false, not_false_eq_true, Int.reduceEq, Int.reduceNe, Int.reduceLT, Int.reduceLE, Int.reduceAdd, Int.reduceSub, Int.reduceMul, Int.reduceNeg, Nat.reduceAdd, Nat.reduceLeDiff, Nat.reduceEqDiff, ne_eq, List.length_cons, List.length_nil, Nat.reduceSub, g, h0, c1, j1, hk1, c]
      exact hQ
    · rw [if_neg c] at e
      have ih' := ih (by rw [hf']; exact e)
      simp only [k_PL_seatAtPlace_1, e_PL_seatAtPlace_2, k_PL_seatAtPlace_2, rr, sh, Nat.reduceLT, Nat.reduceMul, Int.reduceToNat, Int.reduceGT, Int.reduceGE, Int.reduceNe, true_and, and_true, true_or, or_true, false_or, or_false, and_self, or_self, if_true, if_false, reduceIte, not_true_eq_false, not_false_eq_true, Int.reduceEq, Int.reduceNe, Int.reduceLT, Int.reduceLE, Int.reduceAdd, Int.reduceSub, Int.reduceMul, Int.reduceNeg, Nat.reduceAdd, Nat.reduceLeDiff, Nat.reduceEqDiff, ne_eq, List.length_cons, List.length_nil, Nat.reduceSub, g, h0, c1, j1, hk1, c, kw]
      exact ih'
theorem q_seatAtM (hP : Ptr H) (hB : TxB P) (hL : TmP P H) {v : Int} : CC d MO_seatAt [va 71, vi v] H Q = Q (vi (sAt P v)) H := by
  refine CC_dt fun Q hQ => ?_
  have p29 : H 71 29 = 91 := hP (71, 29, 91) (by decide +kernel)
  have p30 : H 71 30 = 92 := hP (71, 30, 92) (by decide +kernel)
  have hn := hB.1
  have h0 : H 91 0 = sTx P := (hL 91 0 rfl).trans hn.1
  simp only [en_MO_seatAt, e_MO_seatAt_0, k_MO_seatAt_0, rr, sh, Nat.reduceLT, Nat.reduceMul, Int.reduceToNat, Int.reduceGT, Int.reduceGE, Int.reduceNe, true_and, and_true, true_or, or_true, false_or, or_false, and_self, or_self, if_true, if_false, reduceIte, not_true_eq_false, not_false_eq_true, Int.reduceEq, Int.reduceNe, Int.reduceLT, Int.reduceLE, Int.reduceAdd, Int.reduceSub, Int.reduceMul, Int.reduceNeg, Nat.reduceAdd, Nat.reduceLeDiff, Nat.reduceEqDiff, ne_eq, List.length_cons, List.length_nil, Nat.reduceSub]
  refine up_nat (P := fun k => saN P v (sTx P - k) k = sAt P v → R d MO_seatAt (blk MO_seatAt 1) [va 71, vi v, vi k] [] H Q) (n := sTx P) ?_ ?_ 0 (Nat.zero_le _) rfl
  · intro e
    rw [Nat.sub_self] at e
    have e : (-1 : Int) = sAt P v := e
    rw [← e] at hQ
    rw [e_MO_seatAt_1]
    simp only [k_MO_seatAt_1, e_MO_seatAt_3, k_MO_seatAt_3, rr, sh, Nat.reduceLT, Nat.reduceMul, Int.reduceToNat, Int.reduceGT, Int.reduceGE, Int.reduceNe, true_and, and_true, true_or, or_true, false_or, or_false, and_self, or_self, if_true, if_false, reduceIte, not_true_eq_false, not_false_eq_true, Int.reduceEq, Int.reduceNe, Int.reduceLT, Int.reduceLE, Int.reduceAdd, Int.reduceSub, Int.reduceMul, Int.reduceNeg, Nat.reduceAdd, Nat.reduceLeDiff, Nat.reduceEqDiff, ne_eq, List.length_cons, List.length_nil, Nat.reduceSub, p29, h0, Int.le_refl]
    exact hQ
  · intro k hk ih e
    obtain ⟨f, hf⟩ : ∃ f, sTx P - k = f + 1 := ⟨sTx P - k - 1, by omega⟩
    have hf' : sTx P - (k + 1) = f := by omega
    rw [hf] at e
    have e : (if P 92 k = v then (k : Int) else saN P v f (k + 1)) = sAt P v := e
    have c1 : ¬ (sTx P : Int) ≤ k := by omega
    have j1 : 0 ≤ (k : Int) ∧ (k : Int) < 24 := by omega
    have kw := w32_s (n := k) (by omega)
    have hk1 : H 92 k = P 92 k := hL 92 k (fh12 (by decide) (Nat.lt_of_lt_of_le hk hn.2))
    rw [e_MO_seatAt_1]
    by_cases c : P 92 k = v
    · rw [if_pos c] at e
      rw [← e] at hQ
      simp only [k_MO_seatAt_1, rr, sh, Nat.reduceLT, Nat.reduceMul, Int.reduceToNat, Int.reduceGT, Int.reduceGE, Int.reduceNe, true_and, and_true, true_or, or_true, false_or, or_false, and_self, or_self, if_true, if_false, reduceIte, not_true_eq_false, not_false_eq_true, Int.reduceEq, Int.reduceNe, Int.reduceLT, Int.reduceLE, Int.reduceAdd, Int.reduceSub, Int.reduceMul, Int.reduceNeg, Nat.reduceAdd, Nat.reduceLeDiff, Nat.reduceEqDiff, ne_eq, List.length_cons, List.length_nil, Nat.reduceSub, p29, p30, h0, c1, j1, hk1, c]
      exact hQ
    · rw [if_neg c] at e
      have ih' := ih (by rw [hf']; exact e)
      simp only [k_MO_seatAt_1, e_MO_seatAt_2, k_MO_seatAt_2, rr, sh, Nat.reduceLT, Nat.reduceMul, Int.reduceToNat, Int.reduceGT, Int.reduceGE, Int.reduceNe, true_and, and_true, true_or, or_true, false_or, or_false, and_self, or_self, if_true, if_false, reduceIte, not_true_eq_false, not_false_eq_true, Int.reduceEq, Int.reduceNe, Int.reduceLT, Int.reduceLE, Int.reduceAdd, Int.reduceSub, Int.reduceMul, Int.reduceNeg, Nat.reduceAdd, Nat.reduceLeDiff, Nat.reduceEqDiff, ne_eq, List.length_cons, List.length_nil, Nat.reduceSub, p29, p30, h0, c1, j1, hk1, c, kw]
      exact ih'
end PB
