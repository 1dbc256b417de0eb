/-! THE READING: which word of a list stands here -/
def flatW : List (List Int) → List Int
  | [] => []
  | w :: ws => w ++ 32 :: flatW ws
def OW : List (List Int) := [[115, 101, 97, 116], [97, 114, 109], [114, 111, 119, 101, 114], [115, 116, 114, 101, 110, 103, 116, 104], [116, 105, 114, 101, 115], [101, 97, 99, 104], [102, 105, 120], [108, 101, 102, 116], [114, 105, 103, 104, 116], [119, 97, 110, 116], [105, 115], [110, 101, 97, 114], [114, 117, 110], [112, 111, 119, 101, 114], [115, 119, 117, 110, 103], [112, 97, 121], [111, 110]]
def QW : List (List Int) := [[102, 105, 114, 115, 116], [108, 97, 115, 116], [111, 102, 116, 101, 110], [116, 111, 116, 97, 108], [109, 111, 115, 116], [108, 101, 97, 115, 116], [111, 114], [97, 110, 100], [110, 111, 116], [97, 108, 108], [115, 116, 114, 111, 107, 101], [111, 102, 102], [103, 111, 111, 100], [115, 119, 105, 110, 103], [102, 111, 114, 99, 101], [109, 105, 110], [109, 97, 120]]
theorem flat_OW : stx 901 = flatW OW := by decide +kernel
theorem flat_QW : stx 902 = flatW QW := by decide +kernel
/-- the bytes from k on, before e, begin with w -/
def mtB (V : Hp) (e : Nat) : Nat → List Int → Bool
  | _, [] => true
  | k, c :: cs => decide (k < e) && (decide (bz V k = c) && mtB V e (k + 1) cs)
/-- the word from a to e is w -/
def wdB (V : Hp) (a e : Nat) (w : List Int) : Bool := mtB V e a w && decide (a + w.length = e)
/-- its place in a list, from i on; -1 if it is none of them -/
def plI (V : Hp) (a e : Nat) : List (List Int) → Nat → Int
  | [], _ => -1
  | w :: ws, i => if wdB V a e w = true then i else plI V a e ws (i + 1)
theorem drop_c {l : List Int} {i : Nat} {c : Int} {t : List Int} (h : l.drop i = c :: t) : l.getD i 0 = c ∧ i < l.length ∧ l.drop (i + 1) = t := by
  have hl : i < l.length := by
    apply Classical.byContradiction
    intro z
    rw [List.drop_eq_nil_of_le (Nat.not_lt.mp z)] at h
    cases h
  rw [List.drop_eq_getElem_cons hl] at h
  obtain ⟨h1, h2⟩ := List.cons.inj h
  exact ⟨by rw [List.getD_eq_getElem?_getD, List.getElem?_eq_getElem hl]; exact h1, hl, h2⟩
theorem drop_n {l : List Int} {i : Nat} (h : l.drop i = []) : l.length ≤ i := by
  apply Classical.byContradiction
  intro z
  rw [List.drop_eq_getElem_cons (Nat.not_le.mp z)] at h
  cases h
section LZ
variable {d : Nat} {V H : Hp} {Q : AV → Hp → Prop}
/-- what is left of a list's string: the rest of a word, and the words behind it -/
def PlP (d : Nat) (V H : Hp) (a e : Nat) (z : Int) (Q : AV → Hp → Prop) (ws : List (List Int)) (cs : List Int) : Prop := ∀ (i k word : Nat) (al : Bool) (y : AV), (stx z).drop i = cs ++ 32 :: flatW ws → k ≤ 1600 + i → word ≤ i → Q (vi (if (al && (mtB V e k cs && decide (k + cs.length = e))) = true then (word : Int) else plI V a e ws (word + 1))) H → R (d + 1) TP_placeIn (blk TP_placeIn 1) [va 2, va z, vi e, vi word, vi k, vi (bI al), vi i, y] [] H Q
set_option maxRecDepth 20000 in
theorem pl_cs (hT : TapeR V) (h : TpV V H) {a e : Nat} {z : Int} (hz : z = 901 ∨ z = 902) (hl : (stx z).length ≤ 1000) {ws : List (List Int)} (base : PlP d V H a e z Q ws []) : ∀ cs : List Int, (∀ c ∈ cs, c ≠ 32) → PlP d V H a e z Q ws cs := by
  intro cs
  induction cs with
  | nil => exact fun _ => base
  | cons c cs ih =>
    intro hcs i k word al y hd hk hw hQ
    have ih' := ih (fun c' hc' => hcs c' (List.mem_cons_of_mem _ hc'))
    have hc : c ≠ 32 := hcs c (List.mem_cons_self ..)
    obtain ⟨g1, g2, g3⟩ := drop_c hd
    have j1 : 0 ≤ (i : Int) ∧ (i : Int) < ((stx z).length : Nat) := by omega
    have c1 : ¬ (((stx z).length : Nat) : Int) ≤ (i : Int) := by omega
    have tn : (i : Int).toNat = i := Int.toNat_natCast i
    have kw := w32_s (n := k) (by omega)
    have iw := w32_s (n := i) (by omega)
    have go : ∀ al' : Bool, al' = (al && (decide (k < e) && decide (bz V k = c))) → R (d + 1) TP_placeIn (blk TP_placeIn 1) [va 2, va z, vi e, vi word, vi ((k + 1 : Nat) : Int), vi (bI al'), vi ((i + 1 : Nat) : Int), vi c] [] H Q := by
      intro al' e1
      refine ih' (i + 1) (k + 1) word al' (vi c) g3 (by omega) (by omega) ?_
      have e2 : (al' && (mtB V e (k + 1) cs && decide (k + 1 + cs.length = e))) = (al && (mtB V e k (c :: cs) && decide (k + (c :: cs).length = e))) := by
        rw [e1, List.length_cons, show k + (cs.length + 1) = k + 1 + cs.length by omega]
        show _ = (al && ((decide (k < e) && (decide (bz V k = c) && mtB V e (k + 1) cs)) && _))
        cases al <;> cases decide (k < e) <;> cases decide (bz V k = c) <;> rfl
      rw [e2]
      exact hQ
    rw [e_TP_placeIn_1]
    cases al with
    | false =>
      have := go false rfl
      simp only [k_TP_placeIn_1, e_TP_placeIn_2, k_TP_placeIn_2, e_TP_placeIn_3, k_TP_placeIn_3, e_TP_placeIn_6, k_TP_placeIn_6, rr, sh, Nat.reduceLT, Nat.reduceMul, Int.reduceToNat, Int.reduceGT, Int.reduceGE, Int.reduceNe, true_and, and_true, true_or, or_true, false_or, or_false, and_self, or_self, if_true, if_false, reduceIte, not_true_eq_false, not_false_eq_true, Int.reduceEq, Int.reduceNe, Int.reduceLT, Int.reduceLE, Int.reduceAdd, Int.reduceSub, Int.reduceMul, Int.reduceNeg, Nat.reduceAdd, Nat.reduceLeDiff, Nat.reduceEqDiff, ne_eq, List.length_cons, List.length_nil, Nat.reduceSub, hz, c1, j1, tn, g1, hc, show bI false = 0 from rfl, kw, iw]
      exact this
    | true =>
      by_cases ke : k < e
      · have c2 : ¬ (e : Int) ≤ (k : Int) := by omega
        by_cases kb : bz V k = c
        · have := go true (by rw [decide_eq_true ke, decide_eq_true kb]; rfl)
          simp only [k_TP_placeIn_1, e_TP_placeIn_2, k_TP_placeIn_2, e_TP_placeIn_3, k_TP_placeIn_3, e_TP_placeIn_6, k_TP_placeIn_6, rr, sh, Nat.reduceLT, Nat.reduceMul, Int.reduceToNat, Int.reduceGT, Int.reduceGE, Int.reduceNe, true_and, and_true, true_or, or_true, false_or, or_false, and_self, or_self, if_true, if_false, reduceIte, not_true_eq_false, not_false_eq_true, Int.reduceEq, Int.reduceNe, Int.reduceLT, Int.reduceLE, Int.reduceAdd, Int.reduceSub, Int.reduceMul, Int.reduceNeg, Nat.reduceAdd, Nat.reduceLeDiff, Nat.reduceEqDiff, ne_eq, List.length_cons, List.length_nil, Nat.reduceSub, hz, c1, j1, tn, g1, hc, show bI true = 1 from rfl, kw, iw, c2, q_byteZ hT h, kb]
          exact this
        · have := go false (by rw [decide_eq_false kb, Bool.and_false, Bool.and_false])
          simp only [k_TP_placeIn_1, e_TP_placeIn_2, k_TP_placeIn_2, e_TP_placeIn_3, k_TP_placeIn_3, e_TP_placeIn_6, k_TP_placeIn_6, rr, sh, Nat.reduceLT, Nat.reduceMul, Int.reduceToNat, Int.reduceGT, Int.reduceGE, Int.reduceNe, true_and, and_true, true_or, or_true, false_or, or_false, and_self, or_self, if_true, if_false, reduceIte, not_true_eq_false, not_false_eq_true, Int.reduceEq, Int.reduceNe, Int.reduceLT, Int.reduceLE, Int.reduceAdd, Int.reduceSub, Int.reduceMul, Int.reduceNeg, Nat.reduceAdd, Nat.reduceLeDiff, Nat.reduceEqDiff, ne_eq, List.length_cons, List.length_nil, Nat.reduceSub, hz, c1, j1, tn, g1, hc, show bI true = 1 from rfl, kw, iw, c2, q_byteZ hT h, kb]
          exact this
      · have c2 : (e : Int) ≤ (k : Int) := by omega
        have := go false (by rw [decide_eq_false ke, Bool.false_and, Bool.and_false])
        simp only [k_TP_placeIn_1, e_TP_placeIn_2, k_TP_placeIn_2, e_TP_placeIn_3, k_TP_placeIn_3, e_TP_placeIn_6, k_TP_placeIn_6, rr, sh, Nat.reduceLT, Nat.reduceMul, Int.reduceToNat, Int.reduceGT, Int.reduceGE, Int.reduceNe, true_and, and_true, true_or, or_true, false_or, or_false, and_self, or_self, if_true, if_false, reduceIte, not_true_eq_false, not_false_eq_true, Int.reduceEq, Int.reduceNe, Int.reduceLT, Int.reduceLE, Int.reduceAdd, Int.reduceSub, Int.reduceMul, Int.reduceNeg, Nat.reduceAdd, Nat.reduceLeDiff, Nat.reduceEqDiff, ne_eq, List.length_cons, List.length_nil, Nat.reduceSub, hz, c1, j1, tn, g1, hc, show bI true = 1 from rfl, kw, iw, c2]
        exact this
set_option maxRecDepth 20000 in
theorem pl_loop (hT : TapeR V) (h : TpV V H) {a e : Nat} (ha : H 2 2 = a) (ha' : a ≤ 1600) {z : Int} (hz : z = 901 ∨ z = 902) (hl : (stx z).length ≤ 1000) : ∀ (ws : List (List Int)), (∀ w ∈ ws, ∀ c ∈ w, c ≠ 32) → ∀ cs : List Int, (∀ c ∈ cs, c ≠ 32) → PlP d V H a e z Q ws cs := by
  intro ws
  induction ws with
  | nil =>
    intro _
    refine pl_cs hT h hz hl ?_
    intro i k word al y hd hk hw hQ
    obtain ⟨g1, g2, g3⟩ := drop_c (t := []) hd
    have j1 : 0 ≤ (i : Int) ∧ (i : Int) < ((stx z).length : Nat) := by omega
    have c1 : ¬ (((stx z).length : Nat) : Int) ≤ (i : Int) := by omega
    have c3 : (((stx z).length : Nat) : Int) ≤ ((i + 1 : Nat) : Int) := by have := drop_n g3; omega
    have tn : (i : Int).toNat = i := Int.toNat_natCast i
    have ww := w32_s (n := word) (by omega)
    have iw := w32_s (n := i) (by omega)
    have fin : ∀ (w2 : Nat) (x y : AV), Q (vi (-1)) H → R (d + 1) TP_placeIn (blk TP_placeIn 1) [va 2, va z, vi e, vi w2, x, y, vi ((i + 1 : Nat) : Int), vi 32] [] H Q := by
      intro w2 x y hq
      rw [e_TP_placeIn_1]
      simp only [k_TP_placeIn_1, e_TP_placeIn_7, k_TP_placeIn_7, rr, sh, Nat.reduceLT, Nat.reduceMul, Int.reduceToNat, Int.reduceGT, Int.reduceGE, Int.reduceNe, true_and, and_true, true_or, or_true, false_or, or_false, and_self, or_self, if_true, if_false, reduceIte, not_true_eq_false, not_false_eq_true, Int.reduceEq, Int.reduceNe, Int.reduceLT, Int.reduceLE, Int.reduceAdd, Int.reduceSub, Int.reduceMul, Int.reduceNeg, Nat.reduceAdd, Nat.reduceLeDiff, Nat.reduceEqDiff, ne_eq, List.length_cons, List.length_nil, Nat.reduceSub, hz, c3]
      exact hq
    rw [e_TP_placeIn_1]
    cases al with
    | false =>
      simp only [k_TP_placeIn_1, e_TP_placeIn_4, k_TP_placeIn_4, e_TP_placeIn_5, k_TP_placeIn_5, e_TP_placeIn_6, k_TP_placeIn_6, rr, sh, Nat.reduceLT, Nat.reduceMul, Int.reduceToNat, Int.reduceGT, Int.reduceGE, Int.reduceNe, true_and, and_true, true_or, or_true, false_or, or_false, and_self, or_self, if_true, if_false, reduceIte, not_true_eq_false, not_false_eq_true, Int.reduceEq, Int.reduceNe, Int.reduceLT, Int.reduceLE, Int.reduceAdd, Int.reduceSub, Int.reduceMul, Int.reduceNeg, Nat.reduceAdd, Nat.reduceLeDiff, Nat.reduceEqDiff, ne_eq, List.length_cons, List.length_nil, Nat.reduceSub, hz, c1, j1, tn, g1, show bI false = 0 from rfl, ww, iw, ha]
      exact fin _ _ _ hQ
    | true =>
      by_cases ke : k = e
      · subst ke
        have e3 : (true && (mtB V k k [] && decide (k + ([] : List Int).length = k))) = true := by simp [mtB]
        rw [if_pos e3] at hQ
        simp only [k_TP_placeIn_1, e_TP_placeIn_4, k_TP_placeIn_4, e_TP_placeIn_5, k_TP_placeIn_5, e_TP_placeIn_6, k_TP_placeIn_6, rr, sh, Nat.reduceLT, Nat.reduceMul, Int.reduceToNat, Int.reduceGT, Int.reduceGE, Int.reduceNe, true_and, and_true, true_or, or_true, false_or, or_false, and_self, or_self, if_true, if_false, reduceIte, not_true_eq_false, not_false_eq_true, Int.reduceEq, Int.reduceNe, Int.reduceLT, Int.reduceLE, Int.reduceAdd, Int.reduceSub, Int.reduceMul, Int.reduceNeg, Nat.reduceAdd, Nat.reduceLeDiff, Nat.reduceEqDiff, ne_eq, List.length_cons, List.length_nil, Nat.reduceSub, hz, c1, j1, tn, g1, show bI true = 1 from rfl, ww, iw, ha]
        exact hQ
      · have e3 : ¬ (true && (mtB V e k [] && decide (k + ([] : List Int).length = e))) = true := by simp [mtB, ke]
        rw [if_neg e3] at hQ
        have c4 : ¬ (k : Int) = e := by omega
        simp only [k_TP_placeIn_1, e_TP_placeIn_4, k_TP_placeIn_4, e_TP_placeIn_5, k_TP_placeIn_5, e_TP_placeIn_6, k_TP_placeIn_6, rr, sh, Nat.reduceLT, Nat.reduceMul, Int.reduceToNat, Int.reduceGT, Int.reduceGE, Int.reduceNe, true_and, and_true, true_or, or_true, false_or, or_false, and_self, or_self, if_true, if_false, reduceIte, not_true_eq_false, not_false_eq_true, Int.reduceEq, Int.reduceNe, Int.reduceLT, Int.reduceLE, Int.reduceAdd, Int.reduceSub, Int.reduceMul, Int.reduceNeg, Nat.reduceAdd, Nat.reduceLeDiff, Nat.reduceEqDiff, ne_eq, List.length_cons, List.length_nil, Nat.reduceSub, hz, c1, j1, tn, g1, show bI true = 1 from rfl, ww, iw, ha, c4]
        exact fin _ _ _ hQ
  | cons w ws ihw =>
    intro hws
    have ih' := ihw (fun w' hw' => hws w' (List.mem_cons_of_mem _ hw')) w (hws w (List.mem_cons_self ..))
    refine pl_cs hT h hz hl ?_
    intro i k word al y hd hk hw hQ
    obtain ⟨g1, g2, g3⟩ := drop_c (t := w ++ 32 :: flatW ws) hd
    have j1 : 0 ≤ (i : Int) ∧ (i : Int) < ((stx z).length : Nat) := by omega
    have c1 : ¬ (((stx z).length : Nat) : Int) ≤ (i : Int) := by omega
    have tn : (i : Int).toNat = i := Int.toNat_natCast i
    have ww := w32_s (n := word) (by omega)
    have iw := w32_s (n := i) (by omega)
    have fin : Q (vi (plI V a e (w :: ws) (word + 1))) H → R (d + 1) TP_placeIn (blk TP_placeIn 1) [va 2, va z, vi e, vi ((word + 1 : Nat) : Int), vi a, vi 1, vi ((i + 1 : Nat) : Int), vi 32] [] H Q := by
      intro hq
      refine ih' (i + 1) a (word + 1) true (vi 32) g3 (by omega) (by omega) ?_
      rw [Bool.true_and]
      exact hq
    rw [e_TP_placeIn_1]
    cases al with
    | false =>
      simp only [k_TP_placeIn_1, e_TP_placeIn_4, k_TP_placeIn_4, e_TP_placeIn_5, k_TP_placeIn_5, e_TP_placeIn_6, k_TP_placeIn_6, rr, sh, Nat.reduceLT, Nat.reduceMul, Int.reduceToNat, Int.reduceGT, Int.reduceGE, Int.reduceNe, true_and, and_true, true_or, or_true, false_or, or_false, and_self, or_self, if_true, if_false, reduceIte, not_true_eq_false, not_false_eq_true, Int.reduceEq, Int.reduceNe, Int.reduceLT, Int.reduceLE, Int.reduceAdd, Int.reduceSub, Int.reduceMul, Int.reduceNeg, Nat.reduceAdd, Nat.reduceLeDiff, Nat.reduceEqDiff, ne_eq, List.length_cons, List.length_nil, Nat.reduceSub, hz, c1, j1, tn, g1, show bI false = 0 from rfl, ww, iw, ha]
      exact fin hQ
    | true =>
      by_cases ke : k = e
      · subst ke
        have e3 : (true && (mtB V k k [] && decide (k + ([] : List Int).length = k))) = true := by simp [mtB]
        rw [if_pos e3] at hQ
        simp only [k_TP_placeIn_1, e_TP_placeIn_4, k_TP_placeIn_4, e_TP_placeIn_5, k_TP_placeIn_5, e_TP_placeIn_6, k_TP_placeIn_6, rr, sh, Nat.reduceLT, Nat.reduceMul, Int.reduceToNat, Int.reduceGT, Int.reduceGE, Int.reduceNe, true_and, and_true, true_or, or_true, false_or, or_false, and_self, or_self, if_true, if_false, reduceIte, not_true_eq_false, not_false_eq_true, Int.reduceEq, Int.reduceNe, Int.reduceLT, Int.reduceLE, Int.reduceAdd, Int.reduceSub, Int.reduceMul, Int.reduceNeg, Nat.reduceAdd, Nat.reduceLeDiff, Nat.reduceEqDiff, ne_eq, List.length_cons, List.length_nil, Nat.reduceSub, hz, c1, j1, tn, g1, show bI true = 1 from rfl, ww, iw, ha]
        exact hQ
      · have e3 : ¬ (true && (mtB V e k [] && decide (k + ([] : List Int).length = e))) = true := by simp [mtB, ke]
        rw [if_neg e3] at hQ
        have c4 : ¬ (k : Int) = e := by omega
        simp only [k_TP_placeIn_1, e_TP_placeIn_4, k_TP_placeIn_4, e_TP_placeIn_5, k_TP_placeIn_5, e_TP_placeIn_6, k_TP_placeIn_6, rr, sh, Nat.reduceLT, Nat.reduceMul, Int.reduceToNat, Int.reduceGT, Int.reduceGE, Int.reduceNe, true_and, and_true, true_or, or_true, false_or, or_false, and_self, or_self, if_true, if_false, reduceIte, not_true_eq_false, not_false_eq_true, Int.reduceEq, Int.reduceNe, Int.reduceLT, Int.reduceLE, Int.reduceAdd, Int.reduceSub, Int.reduceMul, Int.reduceNeg, Nat.reduceAdd, Nat.reduceLeDiff, Nat.reduceEqDiff, ne_eq, List.length_cons, List.length_nil, Nat.reduceSub, hz, c1, j1, tn, g1, show bI true = 1 from rfl, ww, iw, ha, c4]
        exact fin hQ
/-- the class's search of a list of words -/
theorem q_placeIn (hT : TapeR V) (h : TpV V H) {a e : Nat} (ha : H 2 2 = a) (ha' : a ≤ 1600) {z : Int} (hz : z = 901 ∨ z = 902) (hl : (stx z).length ≤ 1000) {w : List Int} {ws : List (List Int)} (hs : stx z = flatW (w :: ws)) (hw : ∀ w' ∈ w :: ws, ∀ c ∈ w', c ≠ 32) : CC (d + 1) TP_placeIn [va 2, va z, vi e] H Q = Q (vi (plI V a e (w :: ws) 0)) H := by
  refine CC_dt fun Q hQ => ?_
  simp only [en_TP_placeIn, e_TP_placeIn_0, k_TP_placeIn_0, rr, sh, Nat.reduceLT, Nat.reduceMul, Int.reduceToNat, Int.reduceGT, Int.reduceGE, Int.reduceNe, true_and, and_true, true_or, or_true, false_or, or_false, and_self, or_self, if_true, if_false, reduceIte, not_true_eq_false, not_false_eq_true, Int.reduceEq, Int.reduceNe, Int.reduceLT, Int.reduceLE, Int.reduceAdd, Int.reduceSub, Int.reduceMul, Int.reduceNeg, Nat.reduceAdd, Nat.reduceLeDiff, Nat.reduceEqDiff, ne_eq, List.length_cons, List.length_nil, Nat.reduceSub, ha]
  refine pl_loop hT h ha ha' hz hl ws (fun w' h' => hw w' (List.mem_cons_of_mem _ h')) w (hw w (List.mem_cons_self ..)) 0 a 0 true vu (by rw [List.drop_zero, hs]; rfl) (by omega) (Nat.le_refl 0) ?_
  rw [Bool.true_and]
  exact hQ
end LZ
