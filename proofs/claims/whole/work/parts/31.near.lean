/-! nearest sides -/
def wl (V : Hp) (p : Nat) : List Nat := (List.range p).filter (fun q => wnt V q)
def wcn (V : Hp) (p : Nat) : Nat := (wl V p).length
def wpw (V : Hp) (i : Nat) : Nat := (wl V 4).getD i 0
theorem wl_succ (V : Hp) (p : Nat) : wl V (p + 1) = wl V p ++ (if wnt V p = true then [p] else []) := by
  unfold wl
  rw [List.range_succ, List.filter_append]
  congr 1
  by_cases h : wnt V p = true <;> simp [List.filter, h]
theorem wcn_succ (V : Hp) (p : Nat) : wcn V (p + 1) = wcn V p + (if wnt V p = true then 1 else 0) := by
  unfold wcn
  rw [wl_succ, List.length_append]
  split <;> rfl
theorem wl_pre (V : Hp) {p r : Nat} (h : p ≤ r) : ∃ t, wl V r = wl V p ++ t := by
  induction h with
  | refl => exact ⟨[], by simp⟩
  | step _ ih => obtain ⟨t, ih⟩ := ih; exact ⟨t ++ _, by rw [wl_succ, ih, List.append_assoc]⟩
theorem wpw_at (V : Hp) {p : Nat} (hp : p < 4) (h : wnt V p = true) : wpw V (wcn V p) = p := by
  obtain ⟨t, ht⟩ := wl_pre V (show p + 1 ≤ 4 by omega)
  unfold wpw
  rw [ht, wl_succ, if_pos h, List.append_assoc, List.getD_eq_getElem?_getD]
  show ((wl V p ++ ([p] ++ t))[(wl V p).length]?).getD 0 = p
  rw [List.getElem?_append_right (Nat.le_refl _)]
  show ((([p] ++ t))[wcn V p - wcn V p]?).getD 0 = p
  rw [Nat.sub_self]; rfl
theorem wcn_le (V : Hp) (p : Nat) : wcn V p ≤ p := by
  induction p with
  | zero => exact Nat.le_refl _
  | succ p ih => rw [wcn_succ]; split <;> omega
/-- a sum over the powers that are wanted -/
theorem wsum (V : Hp) (F : Nat → Int) : ∀ p, p ≤ 4 → sumI (fun i => F (wpw V i)) (wcn V p) = sumI (fun q => if wnt V q = true then F q else 0) p := by
  intro p
  induction p with
  | zero => intro _; rfl
  | succ p ih =>
    intro hp
    rw [wcn_succ]
    show _ = sumI _ p + (if wnt V p = true then F p else 0)
    rw [← ih (by omega)]
    by_cases h : wnt V p = true
    · rw [if_pos h, if_pos h]
      show sumI _ (wcn V p) + F (wpw V (wcn V p)) = _
      rw [wpw_at V (by omega) h]
    · rw [if_neg h, if_neg h, Int.add_zero]; rfl
theorem wall (V : Hp) (P : Nat → Prop) : ∀ p, p ≤ 4 → ((∀ i, i < wcn V p → P (wpw V i)) ↔ ∀ q, q < p → wnt V q = true → P q) := by
  intro p
  induction p with
  | zero => intro _; exact ⟨fun _ q h => absurd h (Nat.not_lt_zero q), fun _ i h => absurd h (Nat.not_lt_zero i)⟩
  | succ p ih =>
    intro hp
    have ih := ih (by omega)
    rw [wcn_succ]
    by_cases h : wnt V p = true
    · rw [if_pos h]
      constructor
      · intro h1 q hq hw
        rcases Nat.lt_or_ge q p with h2 | h2
        · exact ih.mp (fun i hi => h1 i (by omega)) q h2 hw
        · have := h1 (wcn V p) (by omega)
          rw [wpw_at V (by omega) h] at this
          rw [show q = p by omega]; exact this
      · intro h1 i hi
        rcases Nat.lt_or_ge i (wcn V p) with h2 | h2
        · exact ih.mpr (fun q hq hw => h1 q (by omega) hw) i h2
        · rw [show i = wcn V p by omega, wpw_at V (by omega) h]; exact h1 p (by omega) h
    · rw [if_neg h, Nat.add_zero, ih]
      exact ⟨fun h1 q hq hw => h1 q (by rcases Nat.lt_or_ge q p with h2 | h2; exact h2; rw [show q = p by omega] at hw; exact absurd hw h) hw, fun h1 q hq hw => h1 q (by omega) hw⟩
/-- swings with strengths F in the seats -/
def swF (V : Hp) (F : Nat → Int) (q b : Nat) : Int := sumI (fun k => sgn (b.testBit k) (F k * lvr V q k)) (nS V)
def gapF (V : Hp) (F : Nat → Int) (q b : Nat) : Int := abL (w64 (w64 (swF V F q b) - V 101 (4 + q)))
def offF (V : Hp) (F : Nat → Int) (b : Nat) : Int := w64 (sumI (fun q => if wnt V q = true then gapF V F q b else 0) 4)
def goodF (V : Hp) (F : Nat → Int) (b : Nat) : Bool := decide (∀ q : Nat, q < 4 → wnt V q = true → gapF V F q b ≤ V 99 1)
def updO (o : Option (Nat × Int)) (b : Nat) (x : Int) : Option (Nat × Int) := match o with
  | none => some (b, x)
  | some q => if x < q.2 then some (b, x) else some q
def nbF (law : Nat → Bool) (off : Nat → Int) : Nat → Option (Nat × Int)
  | 0 => none
  | m + 1 => if law m = true then updO (nbF law off m) m (off m) else nbF law off m
def cntF (p : Nat → Bool) (m : Nat) : Int := sumI (fun b => if p b = true then 1 else 0) m
theorem cntF_rng (p : Nat → Bool) (m : Nat) : 0 ≤ cntF p m ∧ cntF p m ≤ m := by
  induction m with
  | zero => exact ⟨Int.le_refl _, Int.le_refl _⟩
  | succ m ih =>
    show 0 ≤ cntF p m + (if p m = true then (1 : Int) else 0) ∧ cntF p m + (if p m = true then (1 : Int) else 0) ≤ _
    split <;> omega
def sNE (a b : Int) : Bool := if a = 46 then true else if a = 45 then (decide (b = 2) || decide (b = 3) || decide (b = 4) || decide (b = 5)) else sLN a b
theorem sNE_scr (a b : Int) (h : sNE a b = true) : scr a b = true := by
  unfold sNE at h
  by_cases h1 : a = 46
  · subst h1; rfl
  · by_cases h2 : a = 45
    · subst h2
      simp at h
      rcases h with ((rfl | rfl) | rfl) | rfl <;> rfl
    · rw [if_neg h1, if_neg h2] at h
      exact sLN_scr a b h
theorem sLN_NE (a b : Int) (h : sLN a b = true) : sNE a b = true := by
  unfold sNE
  by_cases h1 : a = 46
  · rw [if_pos h1]
  · by_cases h2 : a = 45
    · subst h2; cases h
    · rw [if_neg h1, if_neg h2]; exact h
def ngW (V : Hp) (F : Nat → Int) (i k : Nat) : Int := F k * lvr V (wpw V i) k
def ngE (V : Hp) (i : Nat) : Int := -V 101 (4 + wpw V i)
theorem LaneS.hs {H : Hp} {n u b : Nat} {g : Nat → Nat → Int} {e : Nat → Int} {c j v : Int} (h : LaneS H n u g e b) (h1 : (42 : Int) ≠ c) (h2 : (43 : Int) ≠ c) (h3 : (44 : Int) ≠ c) : LaneS (hs H c j v) n u g e b := by
  obtain ⟨l1, l2, l3, l4⟩ := h
  exact ⟨by rw [hs_ne h1]; exact l1, l2, fun i hi => by rw [hs_ne h2]; exact l3 i hi, fun i k hi hk => by rw [hs_ne h3]; exact l4 i k hi hk⟩
section NE
variable {d : Nat} {V H : Hp} {Q : AV → Hp → Prop}
theorem Fx.NE46 {H H1 : Hp} (h : Fx sNE H H1) : H1 47 = H 47 := h.cell 47 (fun _ => rfl)
set_option maxRecDepth 20000 in
theorem c_setLanesN (hI : Inq V) (hH : Vw V H) {F : Nat → Int} (hF : ∀ k : Nat, k < nS V → H 47 k = F k) (hQ : ∀ H', Fx sNE H H' → LaneS H' (nS V) (wcn V 4) (ngW V F) (ngE V) 0 → Q vu H') : CC (d + 3) NE_setLanes [va 45, va (V 4 0), va 42] H Q := by
  have hn := hI.boat.s
  have h1 := hI.plan.seats
  have f := hH.f hI.ptr; have g := pl_f hH hI.pp hI.ptr; simp only [en_NE_setLanes, e_NE_setLanes_0, k_NE_setLanes_0, rr, sh, Nat.reduceLT, Nat.reduceMul, Int.reduceToNat, Int.reduceGT, Int.reduceGE, Int.reduceNe, true_and, and_true, true_or, or_true, false_or, or_false, and_self, or_self, if_true, if_false, reduceIte, not_true_eq_false, not_false_eq_true, Int.reduceEq, Int.reduceNe, Int.reduceLT, Int.reduceLE, Int.reduceAdd, Int.reduceSub, Int.reduceMul, Int.reduceNeg, Nat.reduceAdd, Nat.reduceLeDiff, Nat.reduceEqDiff, ne_eq, List.length_cons, List.length_nil, Nat.reduceSub, ite10_0, ite10_1, ite10_01, Classical.not_not, f, g] <;> clear f g
  repeat (refine And.intro (by omega) ?_)
  refine c_clear hI.ptr hH (n := nS V) (g := ngW V F) (e := ngE V) fun H1 b1 b2 => ?_
  refine up_nat (P := fun p => ∀ H' z, Fx sNE H H' → LaneS H' (nS V) (wcn V p) (ngW V F) (ngE V) 0 → R (d + 3) NE_setLanes (blk NE_setLanes 1) [va 45, va (V 4 0), va 42, vi p, z] [] H' Q) ?_ ?_ 0 (Nat.zero_le 4) H1 vu (b1.up sLN_NE) b2
  · intro H' z a1 a2
    rw [e_NE_setLanes_1]
    simp only [k_NE_setLanes_1, en_NE_setLanes, e_NE_setLanes_0, k_NE_setLanes_0, e_NE_setLanes_3, k_NE_setLanes_3, e_NE_setLanes_4, k_NE_setLanes_4, e_NE_setLanes_5, k_NE_setLanes_5, rr, sh, Nat.reduceLT, Nat.reduceMul, Int.reduceToNat, Int.reduceGT, Int.reduceGE, Int.reduceNe, true_and, and_true, true_or, or_true, false_or, or_false, and_self, or_self, if_true, if_false, reduceIte, not_true_eq_false, not_false_eq_true, Int.reduceEq, Int.reduceNe, Int.reduceLT, Int.reduceLE, Int.reduceAdd, Int.reduceSub, Int.reduceMul, Int.reduceNeg, Nat.reduceAdd, Nat.reduceLeDiff, Nat.reduceEqDiff, ne_eq, List.length_cons, List.length_nil, Nat.reduceSub, ite10_0, ite10_1, ite10_01, Classical.not_not, Int.le_refl]
    exact hQ H' a1 a2
  · intro p hp ih H' z a1 a2
    have hV0 := hH
    have hH := hH.fx a1 sNE_scr
    have c1 : ¬ (4 : Int) ≤ p := by omega
    have w0 := want_ne hI hp
    have hs := wcn_succ V p
    rw [e_NE_setLanes_1]
    have f := hH.f hI.ptr; have g := pl_f hH hI.pp hI.ptr; simp only [k_NE_setLanes_1, en_NE_setLanes, e_NE_setLanes_0, k_NE_setLanes_0, e_NE_setLanes_3, k_NE_setLanes_3, e_NE_setLanes_4, k_NE_setLanes_4, e_NE_setLanes_5, k_NE_setLanes_5, rr, sh, Nat.reduceLT, Nat.reduceMul, Int.reduceToNat, Int.reduceGT, Int.reduceGE, Int.reduceNe, true_and, and_true, true_or, or_true, false_or, or_false, and_self, or_self, if_true, if_false, reduceIte, not_true_eq_false, not_false_eq_true, Int.reduceEq, Int.reduceNe, Int.reduceLT, Int.reduceLE, Int.reduceAdd, Int.reduceSub, Int.reduceMul, Int.reduceNeg, Nat.reduceAdd, Nat.reduceLeDiff, Nat.reduceEqDiff, ne_eq, List.length_cons, List.length_nil, Nat.reduceSub, ite10_0, ite10_1, ite10_01, Classical.not_not, f, g, c1, c3_eq, w0, w32_s (show p < 2147483647 by omega)] <;> clear f g w0
    repeat (refine And.intro (by omega) ?_)
    by_cases h : wnt V p = true
    · rw [if_neg (fun q => q h)]
      rw [if_pos h] at hs
      repeat (refine And.intro (by omega) ?_)
      refine up_nat (P := fun k => ∀ H2, Fx sNE H H2 → LaneS H2 (nS V) (wcn V p) (ngW V F) (ngE V) 0 → (∀ j : Nat, j < k → H2 46 j = w64 (F j * lvr V p j)) → R (d + 3) NE_setLanes (blk NE_setLanes 2) [va 45, va (V 4 0), va 42, vi p, vi k] [] H2 Q) ?_ ?_ 0 (Nat.zero_le (nS V)) H' a1 a2 (fun j hj => absurd hj (Nat.not_lt_zero j))
      · intro H2 g1 g2 g3
        have hH := hV0.fx g1 sNE_scr
        have e1 := want_eq hI hp h
        have hw := wcn_le V p
        rw [e_NE_setLanes_2]
        have f := hH.f hI.ptr; have g := pl_f hH hI.pp hI.ptr; simp only [k_NE_setLanes_2, en_NE_setLanes, e_NE_setLanes_0, k_NE_setLanes_0, e_NE_setLanes_3, k_NE_setLanes_3, e_NE_setLanes_4, k_NE_setLanes_4, e_NE_setLanes_5, k_NE_setLanes_5, rr, sh, Nat.reduceLT, Nat.reduceMul, Int.reduceToNat, Int.reduceGT, Int.reduceGE, Int.reduceNe, true_and, and_true, true_or, or_true, false_or, or_false, and_self, or_self, if_true, if_false, reduceIte, not_true_eq_false, not_false_eq_true, Int.reduceEq, Int.reduceNe, Int.reduceLT, Int.reduceLE, Int.reduceAdd, Int.reduceSub, Int.reduceMul, Int.reduceNeg, Nat.reduceAdd, Nat.reduceLeDiff, Nat.reduceEqDiff, ne_eq, List.length_cons, List.length_nil, Nat.reduceSub, ite10_0, ite10_1, ite10_01, Classical.not_not, f, g, h1, e1, Int.le_refl, w32_s (show p < 2147483647 by omega)] <;> clear f g e1
        repeat (refine And.intro (by omega) ?_)
        refine c_add hI.ptr hH (u := wcn V p) (g := ngW V F) (e := ngE V) hn.2 (by omega) (Or.inl rfl) g2 ?_ ?_ fun H3 b1 b2 => ?_
        · unfold ngE; rw [wpw_at V hp h]
        · intro k hk; rw [g3 k hk]; unfold ngW; rw [wpw_at V hp h]
        · exact ih H3 _ (g1.tr (b1.up sLN_NE)) (by rw [hs]; exact b2)
      · intro k hk ih2 H2 g1 g2 g3
        have hH := hV0.fx g1 sNE_scr
        have c2 : ¬ (nS V : Int) ≤ k := by omega
        have e1 : H2 47 k = F k := by rw [g1.NE46]; exact hF k hk
        rw [e_NE_setLanes_2]
        have f := hH.f hI.ptr; have g := pl_f hH hI.pp hI.ptr; simp only [k_NE_setLanes_2, en_NE_setLanes, e_NE_setLanes_0, k_NE_setLanes_0, e_NE_setLanes_3, k_NE_setLanes_3, e_NE_setLanes_4, k_NE_setLanes_4, e_NE_setLanes_5, k_NE_setLanes_5, rr, sh, Nat.reduceLT, Nat.reduceMul, Int.reduceToNat, Int.reduceGT, Int.reduceGE, Int.reduceNe, true_and, and_true, true_or, or_true, false_or, or_false, and_self, or_self, if_true, if_false, reduceIte, not_true_eq_false, not_false_eq_true, Int.reduceEq, Int.reduceNe, Int.reduceLT, Int.reduceLE, Int.reduceAdd, Int.reduceSub, Int.reduceMul, Int.reduceNeg, Nat.reduceAdd, Nat.reduceLeDiff, Nat.reduceEqDiff, ne_eq, List.length_cons, List.length_nil, Nat.reduceSub, ite10_0, ite10_1, ite10_01, Classical.not_not, f, g, h1, e1, c2, q_leverOf hI hH hp hk, w32_s (show k < 2147483647 by omega)] <;> clear f g e1
        repeat (refine And.intro (by omega) ?_)
        refine ih2 _ (g1.hs (c := 46) (j := (k : Int)) rfl) (g2.hs (by decide) (by decide) (by decide)) ?_
        intro j hj
        rw [hs_app]
        by_cases h : j = k
        · rw [if_pos ⟨rfl, by omega⟩, h]
        · rw [if_neg (by omega)]; exact g3 j (by omega)
    · rw [if_pos h]
      rw [if_neg h, Nat.add_zero] at hs
      repeat (refine And.intro (by omega) ?_)
      exact ih H' _ a1 (by rw [hs]; exact a2)
end NE
