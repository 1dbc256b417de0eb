/-! changes: the class loads, and searches -/
section CL
variable {d : Nat} {V H : Hp} {Q : AV → Hp → Prop}
def ldI (V H : Hp) (u : Nat) : Prop := Vw V H ∧ H 50 4 = sdV V ∧ H 50 3 = u ∧ (∀ k : Nat, k < 12 → H 51 k = frS V k) ∧ ∀ i : Nat, i < u → (∀ k : Nat, k < nS V → H 52 ((12 * i + k : Nat) : Int) = sgn ((sdV V).testBit k) (lvr V (wpw V i) k)) ∧ H 53 i = w64 (swF V (frS V) (wpw V i) (sdV V) - V 101 (4 + wpw V i))
set_option maxRecDepth 20000 in
theorem q_forceOff (hI : Inq V) (hH : Vw V H) {k : Nat} {t : Int} (hk : nS V ≤ k) : CC (d + 1) CW_forceIn [va 4, vi k, vi t] H Q = Q (vi 0) H := by
  have h1 := hI.plan.seats
  have c1 : ¬ (0 ≤ (k : Int) ∧ (k : Int) < nS V) := by omega
  have z1 := shp hI
  have f := hH.f hI.ptr; have g := pl_f hH hI.pp hI.ptr; simp only [en_CW_forceIn, e_CW_forceIn_0, k_CW_forceIn_0, e_CW_forceIn_1, k_CW_forceIn_1, e_CW_forceIn_2, k_CW_forceIn_2, rr, sh, Nat.reduceLT, Nat.reduceMul, Int.reduceToNat, Int.reduceGT, Int.reduceGE, Int.reduceNe, true_and, and_true, true_or, or_true, false_or, or_false, and_self, or_self, if_true, if_false, reduceIte, not_true_eq_false, not_false_eq_true, Int.reduceEq, Int.reduceNe, Int.reduceLT, Int.reduceLE, Int.reduceAdd, Int.reduceSub, Int.reduceMul, Int.reduceNeg, Nat.reduceAdd, Nat.reduceLeDiff, Nat.reduceEqDiff, ne_eq, List.length_cons, List.length_nil, Nat.reduceSub, ite10_0, ite10_1, ite10_01, Classical.not_not, f, g, q_isSeat z1, h1, c1] <;> clear f g
set_option maxRecDepth 20000 in
theorem q_leverOff (hI : Inq V) (hH : Vw V H) {q k : Nat} (hk : nS V ≤ k) : CC (d + 1) CW_leverToSide [va 4, vi q, vi k] H Q = Q (vl 0) H := by
  have h1 := hI.plan.seats
  have c1 : ¬ (0 ≤ (k : Int) ∧ (k : Int) < nS V) := by omega
  have z1 := shp hI
  have f := hH.f hI.ptr; have g := pl_f hH hI.pp hI.ptr; simp only [en_CW_leverToSide, e_CW_leverToSide_0, k_CW_leverToSide_0, rr, sh, Nat.reduceLT, Nat.reduceMul, Int.reduceToNat, Int.reduceGT, Int.reduceGE, Int.reduceNe, true_and, and_true, true_or, or_true, false_or, or_false, and_self, or_self, if_true, if_false, reduceIte, not_true_eq_false, not_false_eq_true, Int.reduceEq, Int.reduceNe, Int.reduceLT, Int.reduceLE, Int.reduceAdd, Int.reduceSub, Int.reduceMul, Int.reduceNeg, Nat.reduceAdd, Nat.reduceLeDiff, Nat.reduceEqDiff, ne_eq, List.length_cons, List.length_nil, Nat.reduceSub, ite10_0, ite10_1, ite10_01, Classical.not_not, f, g, q_isSeat z1, h1, c1] <;> clear f g
theorem frS_at {V : Hp} {k : Nat} (h : V 107 k = -1) : frS V k = 0 := by
  unfold frS frc
  rw [if_pos h]
theorem frS_off {V : Hp} (hM : Inm V) {k : Nat} (h : nS V ≤ k) (hk : k < 12) : frS V k = 0 := (hM.crew.off k h hk).elim frS_at frc_z
theorem lev_ok {V : Hp} (hM : Inm V) {q k : Nat} (hq : q < 4) (hk : k < nS V) (b : Bool) : (if b = true then lvr V q k else w64 (-lvr V q k)) = sgn b (lvr V q k) := by
  have hr := lvr_rng hM hq hk
  unfold sgn
  generalize lvr V q k = x at hr ⊢
  cases b
  · simp only [Bool.false_eq_true, if_false]
    exact w64_id (by omega) (by omega)
  · simp only [if_true]
set_option maxRecDepth 20000 in
theorem c_chLoad (hI : Inq V) (hH : Vw V H) (hQ : ∀ H', Vw V H' → ChS V (sdV V) (frS V) H' → Q vu H') : CC (d + 4) CH_load [va 50, va 4] H Q := by
  have hn := hI.boat.s
  have ht := hI.crew.stroke
  have hst := hI.cc.stroke
  simp only [en_CH_load, e_CH_load_0, k_CH_load_0, rr, sh, Nat.reduceLT, Nat.reduceMul, Int.reduceToNat, Int.reduceGT, Int.reduceGE, Int.reduceNe, true_and, and_true, true_or, or_true, false_or, or_false, and_self, or_self, if_true, if_false, reduceIte, not_true_eq_false, not_false_eq_true, Int.reduceEq, Int.reduceNe, Int.reduceLT, Int.reduceLE, Int.reduceAdd, Int.reduceSub, Int.reduceMul, Int.reduceNeg, Nat.reduceAdd, Nat.reduceLeDiff, Nat.reduceEqDiff, ne_eq, List.length_cons, List.length_nil, Nat.reduceSub, q_sides hI hH]
  refine up_nat (P := fun k => ∀ H', Vw V H' → H' 50 4 = sdV V → (∀ j : Nat, j < k → H' 51 j = frS V j) → R (d + 4) CH_load (blk CH_load 1) [va 50, va 4, vi k, vu, vu, vu] [] H' Q) ?_ ?_ 0 (Nat.zero_le 12) _ (hH.hs (c := 50) (j := 4) rfl) hs_same (fun j hj => absurd hj (Nat.not_lt_zero j))
  · intro H' a1 a2 a3
    rw [e_CH_load_1]
    simp only [k_CH_load_1, e_CH_load_2, k_CH_load_2, rr, sh, Nat.reduceLT, Nat.reduceMul, Int.reduceToNat, Int.reduceGT, Int.reduceGE, Int.reduceNe, true_and, and_true, true_or, or_true, false_or, or_false, and_self, or_self, if_true, if_false, reduceIte, not_true_eq_false, not_false_eq_true, Int.reduceEq, Int.reduceNe, Int.reduceLT, Int.reduceLE, Int.reduceAdd, Int.reduceSub, Int.reduceMul, Int.reduceNeg, Nat.reduceAdd, Nat.reduceLeDiff, Nat.reduceEqDiff, ne_eq, List.length_cons, List.length_nil, Nat.reduceSub, Int.le_refl]
    refine up_nat (P := fun p => ∀ H' (y z : AV), ldI V H' (wcn V p) → R (d + 4) CH_load (blk CH_load 3) [va 50, va 4, vi p, y, vu, z] [] H' Q) ?_ ?_ 0 (Nat.zero_le 4) _ vu vu ⟨a1.hs (c := 50) (j := 3) rfl, (hs2 (by decide)).trans a2, hs_same, fun k hk => (hs_ne' (by decide)).trans (a3 k hk), fun i hi => absurd hi (Nat.not_lt_zero i)⟩
    · intro H2 y z hL
      obtain ⟨b1, b2, b3, b4, b5⟩ := hL
      rw [e_CH_load_3]
      simp only [k_CH_load_3, e_CH_load_7, k_CH_load_7, rr, sh, Nat.reduceLT, Nat.reduceMul, Int.reduceToNat, Int.reduceGT, Int.reduceGE, Int.reduceNe, true_and, and_true, true_or, or_true, false_or, or_false, and_self, or_self, if_true, if_false, reduceIte, not_true_eq_false, not_false_eq_true, Int.reduceEq, Int.reduceNe, Int.reduceLT, Int.reduceLE, Int.reduceAdd, Int.reduceSub, Int.reduceMul, Int.reduceNeg, Nat.reduceAdd, Nat.reduceLeDiff, Nat.reduceEqDiff, ne_eq, List.length_cons, List.length_nil, Nat.reduceSub, Int.le_refl]
      exact hQ H2 b1 ⟨b2, b3, b4, b5⟩
    · intro p hp ih H2 y z hL
      have hLL := hL
      obtain ⟨b1, b2, b3, b4, b5⟩ := hL
      have c1 : ¬ (4 : Int) ≤ p := by clear ih hLL b5; omega
      have jp : 0 ≤ (p : Int) ∧ (p : Int) < 4 := by clear ih hLL b5; omega
      have kp := w32_s (n := p) (by clear ih hLL b5; omega)
      have w0 := want_ne hI hp
      have hs' := wcn_succ V p
      have hwc := wcn_le V p
      rw [e_CH_load_3]
      by_cases h : wnt V p = true
      · rw [if_pos h] at hs'
        have we := want_eq hI hp h
        have wne : ¬ V 101 (4 + (p : Int)) = -1000000000000000 := by have := hI.boat.want p hp (of_decide_eq_true h); clear ih hLL b5 w0 we kp; omega
        have hpw := wpw_at V hp h
        have hH := b1
        have f := hH.f hI.ptr; have g := pl_f hH hI.pp hI.ptr; simp only [k_CH_load_3, rr, sh, Nat.reduceLT, Nat.reduceMul, Int.reduceToNat, Int.reduceGT, Int.reduceGE, Int.reduceNe, true_and, and_true, true_or, or_true, false_or, or_false, and_self, or_self, if_true, if_false, reduceIte, not_true_eq_false, not_false_eq_true, Int.reduceEq, Int.reduceNe, Int.reduceLT, Int.reduceLE, Int.reduceAdd, Int.reduceSub, Int.reduceMul, Int.reduceNeg, Nat.reduceAdd, Nat.reduceLeDiff, Nat.reduceEqDiff, ne_eq, List.length_cons, List.length_nil, Nat.reduceSub, ite10_0, ite10_1, ite10_01, Classical.not_not, f, g, c1, jp, c3_eq, we, wne] <;> clear f g
        refine up_nat (P := fun s => ∀ H3, ldI V H3 (wcn V p) → (∀ k : Nat, k < s → k < nS V → H3 52 ((12 * wcn V p + k : Nat) : Int) = sgn ((sdV V).testBit k) (lvr V p k)) → R (d + 4) CH_load (blk CH_load 4) [va 50, va 4, vi p, vl (V 101 (4 + (p : Int))), vu, vi s] [] H3 Q) ?_ ?_ 0 (Nat.zero_le 12) H2 hLL (fun k hk => absurd hk (Nat.not_lt_zero k))
        · intro H3 hL3 g
          obtain ⟨d1, d2, d3, d4, d5⟩ := hL3
          have i1 : 0 ≤ V 71 47 := ht.1
          have i2 : V 71 47 ≤ 100000 := by clear ih hLL b5 w0 we kp d5 g; omega
          have jw : 0 ≤ (wcn V p : Int) ∧ (wcn V p : Int) < 4 := by clear ih hLL b5 w0 we kp d5 g; omega
          have kw := w32_s (n := wcn V p) (by clear ih hLL b5 w0 we kp d5 g; omega)
          have p2 := (chP hI d1).2.2
          have e43 : H3 4 3 = V 71 47 := (d1 4 3 rfl).trans hst
          have y3 : ∀ v, hs H3 53 (wcn V p : Int) v 50 3 = wcn V p := fun v => (hs_ne' (by decide)).trans d3
          have esw : sww V p (sdV V) (V 71 47) = swF V (frS V) p (sdV V) := rfl
          rw [e_CH_load_4]
          simp only [k_CH_load_4, e_CH_load_5, k_CH_load_5, e_CH_load_6, k_CH_load_6, rr, sh, Nat.reduceLT, Nat.reduceMul, Int.reduceToNat, Int.reduceGT, Int.reduceGE, Int.reduceNe, true_and, and_true, true_or, or_true, false_or, or_false, and_self, or_self, if_true, if_false, reduceIte, not_true_eq_false, not_false_eq_true, Int.reduceEq, Int.reduceNe, Int.reduceLT, Int.reduceLE, Int.reduceAdd, Int.reduceSub, Int.reduceMul, Int.reduceNeg, Nat.reduceAdd, Nat.reduceLeDiff, Nat.reduceEqDiff, ne_eq, List.length_cons, List.length_nil, Nat.reduceSub, Int.le_refl, p2, d3, jw, e43, q_swingAt hI d1 hp i1 i2, w64_sl, y3, kw, kp]
          refine ih _ _ _ ⟨(d1.hs (c := 53) rfl).hs (c := 50) (j := 3) rfl, ?_, ?_, fun k hk => ?_, fun i hi => ?_⟩
          · rw [hs2 (by decide), hs_ne' (by decide)]; exact d2
          · rw [hs']; exact hs_same
          · rw [hs_ne' (by decide), hs_ne' (by decide)]; exact d4 k hk
          · rw [hs_ne' (by decide), hs_at]
            by_cases e : i = wcn V p
            · subst e
              rw [if_pos rfl, hpw]
              exact ⟨fun k hk => by rw [hs_ne' (by decide), hs_ne' (by decide)]; exact g k (Nat.lt_of_lt_of_le hk hn.2) hk, by rw [esw]⟩
            · have hi' : i < wcn V p := by rw [hs'] at hi; exact Nat.lt_of_le_of_ne (Nat.le_of_lt_succ hi) e
              rw [if_neg (fun z => e (Int.ofNat_inj.mp z))]
              exact ⟨fun k hk => by rw [hs_ne' (by decide), hs_ne' (by decide)]; exact (d5 i hi').1 k hk, (d5 i hi').2⟩
        · intro s hs12 ih2 H3 hL3 g
          have hL3' := hL3
          obtain ⟨d1, d2, d3, d4, d5⟩ := hL3
          have c2 : ¬ (12 : Int) ≤ s := by clear ih ih2 hLL hL3' b5 w0 we kp d5 g; omega
          have ks := w32_s (n := s) (by clear ih ih2 hLL hL3' b5 w0 we kp d5 g; omega)
          have wi : w32 (w32 ((wcn V p : Int) * 12) + s) = ((12 * wcn V p + s : Nat) : Int) := by
            rw [w32_id (x := (wcn V p : Int) * 12) (by clear ih ih2 hLL hL3' b5 w0 we kp d5 g ks; omega) (by clear ih ih2 hLL hL3' b5 w0 we kp d5 g ks; omega), w32_id (by clear ih ih2 hLL hL3' b5 w0 we kp d5 g ks; omega) (by clear ih ih2 hLL hL3' b5 w0 we kp d5 g ks; omega)]
            clear ih ih2 hLL hL3' b5 w0 we kp d5 g ks; omega
          have jx : 0 ≤ ((12 * wcn V p + s : Nat) : Int) ∧ ((12 * wcn V p + s : Nat) : Int) < 48 := by clear ih ih2 hLL hL3' b5 w0 we kp d5 g ks wi; omega
          have p1 := (chP hI d1).2.1
          have fin : ∀ v, (s < nS V → v = sgn ((sdV V).testBit s) (lvr V p s)) → R (d + 4) CH_load (blk CH_load 4) [va 50, va 4, vi p, vl (V 101 (4 + (p : Int))), vu, vi ((s + 1 : Nat) : Int)] [] (hs H3 52 ((12 * wcn V p + s : Nat) : Int) v) Q := fun v hv => by
            refine ih2 _ ⟨d1.hs (c := 52) rfl, ?_, ?_, fun k hk => ?_, fun i hi => ⟨fun k hk => ?_, ?_⟩⟩ (fun k hk hkn => ?_)
            · rw [hs_ne' (by decide)]; exact d2
            · rw [hs_ne' (by decide)]; exact d3
            · rw [hs_ne' (by decide)]; exact d4 k hk
            · have hk12 : k < 12 := Nat.lt_of_lt_of_le hk hn.2
              have n1 : ¬ ((12 * i + k : Nat) : Int) = ((12 * wcn V p + s : Nat) : Int) := by clear ih ih2 hLL hL3' b5 w0 we kp d5 g ks wi hv; omega
              rw [hs_at, if_neg n1]
              exact (d5 i hi).1 k hk
            · rw [hs_ne' (by decide)]; exact (d5 i hi).2
            · rw [hs_at]
              by_cases e : k = s
              · subst e; rw [if_pos rfl]; exact hv hkn
              · have n1 : ¬ ((12 * wcn V p + k : Nat) : Int) = ((12 * wcn V p + s : Nat) : Int) := by clear ih ih2 hLL hL3' b5 w0 we kp d5 g ks wi hv; omega
                rw [if_neg n1]
                exact g k (Nat.lt_of_le_of_ne (Nat.le_of_lt_succ hk) e) hkn
          rw [e_CH_load_4]
          by_cases hsn : s < nS V
          · simp only [k_CH_load_4, rr, sh, Nat.reduceLT, Nat.reduceMul, Int.reduceToNat, Int.reduceGT, Int.reduceGE, Int.reduceNe, true_and, and_true, true_or, or_true, false_or, or_false, and_self, or_self, if_true, if_false, reduceIte, not_true_eq_false, not_false_eq_true, Int.reduceEq, Int.reduceNe, Int.reduceLT, Int.reduceLE, Int.reduceAdd, Int.reduceSub, Int.reduceMul, Int.reduceNeg, Nat.reduceAdd, Nat.reduceLeDiff, Nat.reduceEqDiff, ne_eq, List.length_cons, List.length_nil, Nat.reduceSub, c2, p1, d3, wi, q_leverToSide hI d1 hp hsn, lev_ok hI.m hp hsn, jx, ks]
            exact fin _ (fun _ => rfl)
          · simp only [k_CH_load_4, rr, sh, Nat.reduceLT, Nat.reduceMul, Int.reduceToNat, Int.reduceGT, Int.reduceGE, Int.reduceNe, true_and, and_true, true_or, or_true, false_or, or_false, and_self, or_self, if_true, if_false, reduceIte, not_true_eq_false, not_false_eq_true, Int.reduceEq, Int.reduceNe, Int.reduceLT, Int.reduceLE, Int.reduceAdd, Int.reduceSub, Int.reduceMul, Int.reduceNeg, Nat.reduceAdd, Nat.reduceLeDiff, Nat.reduceEqDiff, ne_eq, List.length_cons, List.length_nil, Nat.reduceSub, c2, p1, d3, wi, q_leverOff hI d1 (Nat.not_lt.mp hsn), jx, ks]
            exact fin _ (fun z => absurd z hsn)
      · rw [if_neg h, Nat.add_zero] at hs'
        have w0' : V (V 4 0 + 7) p = -1000000000000000 := by rw [w0]; exact h
        have hH := b1
        have f := hH.f hI.ptr; have g := pl_f hH hI.pp hI.ptr; simp only [k_CH_load_3, e_CH_load_6, k_CH_load_6, rr, sh, Nat.reduceLT, Nat.reduceMul, Int.reduceToNat, Int.reduceGT, Int.reduceGE, Int.reduceNe, true_and, and_true, true_or, or_true, false_or, or_false, and_self, or_self, if_true, if_false, reduceIte, not_true_eq_false, not_false_eq_true, Int.reduceEq, Int.reduceNe, Int.reduceLT, Int.reduceLE, Int.reduceAdd, Int.reduceSub, Int.reduceMul, Int.reduceNeg, Nat.reduceAdd, Nat.reduceLeDiff, Nat.reduceEqDiff, ne_eq, List.length_cons, List.length_nil, Nat.reduceSub, ite10_0, ite10_1, ite10_01, Classical.not_not, f, g, c1, jp, c3_eq, w0', kp] <;> clear f g
        refine ih _ _ _ ?_
        rw [hs']; exact hLL
  · intro k hk ih H' a1 a2 a3
    have c1 : ¬ (12 : Int) ≤ k := by clear ih a3; omega
    have jk : 0 ≤ (k : Int) ∧ (k : Int) < 12 := by clear ih a3; omega
    have kw := w32_s (n := k) (by clear ih a3; omega)
    have p0 := (chP hI a1).1
    have e43 : H' 4 3 = V 71 47 := (a1 4 3 rfl).trans hst
    have i2 : V 71 47 ≤ 100000 := by clear ih a3 kw; omega
    have fin : R (d + 4) CH_load (blk CH_load 1) [va 50, va 4, vi ((k + 1 : Nat) : Int), vu, vu, vu] [] (hs H' 51 k (frS V k)) Q := by
      refine ih _ (a1.hs (c := 51) rfl) ((hs_ne' (by decide)).trans a2) fun j hj => ?_
      rw [hs_at]
      by_cases e : j = k
      · subst e; rw [if_pos rfl]
      · rw [if_neg (fun z => e (Int.ofNat_inj.mp z))]
        exact a3 j (Nat.lt_of_le_of_ne (Nat.le_of_lt_succ hj) e)
    rw [e_CH_load_1]
    by_cases hkn : k < nS V
    · have ef : frc V k (V 71 47) = frS V k := rfl
      simp only [k_CH_load_1, rr, sh, Nat.reduceLT, Nat.reduceMul, Int.reduceToNat, Int.reduceGT, Int.reduceGE, Int.reduceNe, true_and, and_true, true_or, or_true, false_or, or_false, and_self, or_self, if_true, if_false, reduceIte, not_true_eq_false, not_false_eq_true, Int.reduceEq, Int.reduceNe, Int.reduceLT, Int.reduceLE, Int.reduceAdd, Int.reduceSub, Int.reduceMul, Int.reduceNeg, Nat.reduceAdd, Nat.reduceLeDiff, Nat.reduceEqDiff, ne_eq, List.length_cons, List.length_nil, Nat.reduceSub, c1, p0, e43, q_forceIn hI a1 hkn ht.1 i2, ef, jk, kw]
      exact fin
    · have e0 := frS_off hI.m (Nat.not_lt.mp hkn) hk
      rw [e0] at fin
      simp only [k_CH_load_1, rr, sh, Nat.reduceLT, Nat.reduceMul, Int.reduceToNat, Int.reduceGT, Int.reduceGE, Int.reduceNe, true_and, and_true, true_or, or_true, false_or, or_false, and_self, or_self, if_true, if_false, reduceIte, not_true_eq_false, not_false_eq_true, Int.reduceEq, Int.reduceNe, Int.reduceLT, Int.reduceLE, Int.reduceAdd, Int.reduceSub, Int.reduceMul, Int.reduceNeg, Nat.reduceAdd, Nat.reduceLeDiff, Nat.reduceEqDiff, ne_eq, List.length_cons, List.length_nil, Nat.reduceSub, c1, p0, e43, q_forceOff hI a1 (Nat.not_lt.mp hkn), jk, kw]
      exact fin
theorem absI_q {x : Int} (h : -1000 ≤ x ∧ x ≤ 1000) : CC d JK_absI [vi x] H Q = Q (vi (if x < 0 then -x else x)) H := by
  have w1 : w32 (-x) = -x := w32_id (by omega) (by omega)
  by_cases c : x < 0
  · have c' : ¬ 0 ≤ x := by omega
    simp only [en_JK_absI, e_JK_absI_0, k_JK_absI_0, e_JK_absI_1, k_JK_absI_1, e_JK_absI_2, k_JK_absI_2, rr, sh, Nat.reduceLT, Nat.reduceMul, Int.reduceToNat, Int.reduceGT, Int.reduceGE, Int.reduceNe, true_and, and_true, true_or, or_true, false_or, or_false, and_self, or_self, if_true, if_false, reduceIte, not_true_eq_false, not_false_eq_true, Int.reduceEq, Int.reduceNe, Int.reduceLT, Int.reduceLE, Int.reduceAdd, Int.reduceSub, Int.reduceMul, Int.reduceNeg, Nat.reduceAdd, Nat.reduceLeDiff, Nat.reduceEqDiff, ne_eq, List.length_cons, List.length_nil, Nat.reduceSub, c, c', w1]
  · have c' : 0 ≤ x := by omega
    simp only [en_JK_absI, e_JK_absI_0, k_JK_absI_0, e_JK_absI_1, k_JK_absI_1, e_JK_absI_2, k_JK_absI_2, rr, sh, Nat.reduceLT, Nat.reduceMul, Int.reduceToNat, Int.reduceGT, Int.reduceGE, Int.reduceNe, true_and, and_true, true_or, or_true, false_or, or_false, and_self, or_self, if_true, if_false, reduceIte, not_true_eq_false, not_false_eq_true, Int.reduceEq, Int.reduceNe, Int.reduceLT, Int.reduceLE, Int.reduceAdd, Int.reduceSub, Int.reduceMul, Int.reduceNeg, Nat.reduceAdd, Nat.reduceLeDiff, Nat.reduceEqDiff, ne_eq, List.length_cons, List.length_nil, Nat.reduceSub, c, c', w1]
set_option maxRecDepth 20000 in
theorem c_canBeLawful (hI : Inq V) (hH : Vw V H) (h4 : H 50 4 = sdV V) {t : Nat} (ht : t ≤ 3) (h1 : canL V t → Q (vi 1) H) (h0 : ¬ canL V t → Q (vi 0) H) : CC (d + 1) CH_canBeLawful [va 50, va (V 4 0), vi t] H Q := by
  have hn := hI.boat.s
  have e10 := hI.plan.left
  have e0 := hI.plan.seats
  have he := hI.boat.each
  have hb := sdV_lt hI.m
  have hp := pop_lt (n := sdV V)
  have z1 := shp hI
  by_cases c : eaV V = -1
  · have f := hH.f hI.ptr; have g := pl_f hH hI.pp hI.ptr; simp only [en_CH_canBeLawful, e_CH_canBeLawful_0, k_CH_canBeLawful_0, e_CH_canBeLawful_1, k_CH_canBeLawful_1, e_CH_canBeLawful_2, k_CH_canBeLawful_2, e_CH_canBeLawful_3, k_CH_canBeLawful_3, rr, sh, Nat.reduceLT, Nat.reduceMul, Int.reduceToNat, Int.reduceGT, Int.reduceGE, Int.reduceNe, true_and, and_true, true_or, or_true, false_or, or_false, and_self, or_self, if_true, if_false, reduceIte, not_true_eq_false, not_false_eq_true, Int.reduceEq, Int.reduceNe, Int.reduceLT, Int.reduceLE, Int.reduceAdd, Int.reduceSub, Int.reduceMul, Int.reduceNeg, Nat.reduceAdd, Nat.reduceLeDiff, Nat.reduceEqDiff, ne_eq, List.length_cons, List.length_nil, Nat.reduceSub, ite10_0, ite10_1, ite10_01, Classical.not_not, f, g, z1, e10, c] <;> clear f g e10
    exact h1 (Or.inl c)
  · have w1 : w32 ((nS V : Int) - pop (sdV V)) = nS V - pop (sdV V) := w32_id (by clear z1 e10 e0 h1 h0; omega) (by clear z1 e10 e0 h1 h0; omega)
    have w2 : w32 ((nS V : Int) - pop (sdV V) - eaV V) = nS V - pop (sdV V) - eaV V := w32_id (by clear z1 e10 e0 h1 h0 w1; omega) (by clear z1 e10 e0 h1 h0 w1; omega)
    have hx : -1000 ≤ (nS V : Int) - pop (sdV V) - eaV V ∧ (nS V : Int) - pop (sdV V) - eaV V ≤ 1000 := by clear z1 e10 e0 h1 h0 w1 w2; omega
    have hcan : canL V t ↔ ∃ u : Nat, (nS V : Int) - pop (sdV V) - eaV V = t - 2 * (u : Int) ∧ u ≤ t := ⟨fun z => z.elim (fun q => absurd q c) id, Or.inr⟩
    rw [hcan] at h1 h0
    obtain ⟨x, hx0⟩ : ∃ x, x = (nS V : Int) - pop (sdV V) - eaV V := ⟨_, rfl⟩
    rw [← hx0] at h1 h0 hx
    have w2 : w32 ((nS V : Int) - pop (sdV V) - eaV V) = x := w2.trans hx0.symm
    clear hx0 hcan
    obtain ⟨m, hm⟩ : ∃ m : Int, m = if x < 0 then -x else x := ⟨_, rfl⟩
    have hm0 : 0 ≤ m ∧ m ≤ 1000 := by rw [hm]; clear z1 e10 e0 h1 h0 w1 w2; split <;> omega
    by_cases c2 : (t : Int) < m
    · have f := hH.f hI.ptr; have g := pl_f hH hI.pp hI.ptr; simp only [en_CH_canBeLawful, e_CH_canBeLawful_0, k_CH_canBeLawful_0, e_CH_canBeLawful_1, k_CH_canBeLawful_1, e_CH_canBeLawful_2, k_CH_canBeLawful_2, e_CH_canBeLawful_3, k_CH_canBeLawful_3, rr, sh, Nat.reduceLT, Nat.reduceMul, Int.reduceToNat, Int.reduceGT, Int.reduceGE, Int.reduceNe, true_and, and_true, true_or, or_true, false_or, or_false, and_self, or_self, if_true, if_false, reduceIte, not_true_eq_false, not_false_eq_true, Int.reduceEq, Int.reduceNe, Int.reduceLT, Int.reduceLE, Int.reduceAdd, Int.reduceSub, Int.reduceMul, Int.reduceNeg, Nat.reduceAdd, Nat.reduceLeDiff, Nat.reduceEqDiff, ne_eq, List.length_cons, List.length_nil, Nat.reduceSub, ite10_0, ite10_1, ite10_01, Classical.not_not, f, g, z1, e10, c, e0, h4, q_bitCount hb, w1, w2, absI_q hx, ← hm, c2] <;> clear f g e10 e0 w1 w2
      refine h0 fun ⟨u, u1, u2⟩ => ?_
      clear h1 h0
      split at hm <;> omega
    · have w3 : w32 ((t : Int) - m) = t - m := w32_id (by clear z1 e10 e0 h1 h0 w1 w2 hm; omega) (by clear z1 e10 e0 h1 h0 w1 w2 hm; omega)
      have w4 : w32 (((t : Int) - m).tmod 2) = (t - m) % 2 := by rw [Int.tmod_eq_emod_of_nonneg (by clear z1 e10 e0 h1 h0 w1 w2 hm w3; omega), w32_id (by clear z1 e10 e0 h1 h0 w1 w2 hm w3; omega) (by clear z1 e10 e0 h1 h0 w1 w2 hm w3; omega)]
      by_cases c3 : ((t : Int) - m) % 2 = 0
      · have f := hH.f hI.ptr; have g := pl_f hH hI.pp hI.ptr; simp only [en_CH_canBeLawful, e_CH_canBeLawful_0, k_CH_canBeLawful_0, e_CH_canBeLawful_1, k_CH_canBeLawful_1, e_CH_canBeLawful_2, k_CH_canBeLawful_2, e_CH_canBeLawful_3, k_CH_canBeLawful_3, rr, sh, Nat.reduceLT, Nat.reduceMul, Int.reduceToNat, Int.reduceGT, Int.reduceGE, Int.reduceNe, true_and, and_true, true_or, or_true, false_or, or_false, and_self, or_self, if_true, if_false, reduceIte, not_true_eq_false, not_false_eq_true, Int.reduceEq, Int.reduceNe, Int.reduceLT, Int.reduceLE, Int.reduceAdd, Int.reduceSub, Int.reduceMul, Int.reduceNeg, Nat.reduceAdd, Nat.reduceLeDiff, Nat.reduceEqDiff, ne_eq, List.length_cons, List.length_nil, Nat.reduceSub, ite10_0, ite10_1, ite10_01, Classical.not_not, f, g, z1, e10, c, e0, h4, q_bitCount hb, w1, w2, absI_q hx, ← hm, c2, w3, w4, c3] <;> clear f g e10 e0 w1 w2 w3 w4
        refine h1 ⟨(((t : Int) - x) / 2).toNat, ?_, ?_⟩
        · clear h1 h0
          split at hm <;> omega
        · clear h1 h0
          split at hm <;> omega
      · have f := hH.f hI.ptr; have g := pl_f hH hI.pp hI.ptr; simp only [en_CH_canBeLawful, e_CH_canBeLawful_0, k_CH_canBeLawful_0, e_CH_canBeLawful_1, k_CH_canBeLawful_1, e_CH_canBeLawful_2, k_CH_canBeLawful_2, e_CH_canBeLawful_3, k_CH_canBeLawful_3, rr, sh, Nat.reduceLT, Nat.reduceMul, Int.reduceToNat, Int.reduceGT, Int.reduceGE, Int.reduceNe, true_and, and_true, true_or, or_true, false_or, or_false, and_self, or_self, if_true, if_false, reduceIte, not_true_eq_false, not_false_eq_true, Int.reduceEq, Int.reduceNe, Int.reduceLT, Int.reduceLE, Int.reduceAdd, Int.reduceSub, Int.reduceMul, Int.reduceNeg, Nat.reduceAdd, Nat.reduceLeDiff, Nat.reduceEqDiff, ne_eq, List.length_cons, List.length_nil, Nat.reduceSub, ite10_0, ite10_1, ite10_01, Classical.not_not, f, g, z1, e10, c, e0, h4, q_bitCount hb, w1, w2, absI_q hx, ← hm, c2, w3, w4, c3] <;> clear f g e10 e0 w1 w2 w3 w4
        refine h0 fun ⟨u, u1, u2⟩ => c3 ?_
        clear h1 h0 c3
        split at hm <;> omega
end CL
