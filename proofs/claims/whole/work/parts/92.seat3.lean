/-! seated: the reference -/
def s596 (a b : Int) : Bool := if a = 71 then (decide (b = 59) || decide (b = 60)) else false
theorem s596_scr (a b : Int) (h : s596 a b = true) : scr a b = true := by
  unfold s596 at h
  by_cases h1 : a = 71
  · subst h1
    simp at h
    rcases h with rfl | rfl <;> rfl
  · simp [h1] at h
section SR
variable {d : Nat} {V H : Hp} {Q : AV → Hp → Prop}
set_option maxRecDepth 20000 in
theorem c_isNearestF (hM : Inm V) (hH : Vw V H) (hQ : ∀ H', Fx s596 H H' → nbM H' (nbV V) → Q (vi (if (nbV V).isSome = true then 1 else 0)) H') : CC (d + 4) MO_isNearest [va 71] H Q := by
  have hn := hM.boat.s
  have hV0 := hH
  have h2 : 2 ^ nS V ≤ 4096 := Nat.pow_le_pow_right (by decide) hn.2
  have e0 := one_shl hn.2
  have f := hH.f hM.ptr; simp only [en_MO_isNearest, e_MO_isNearest_0, k_MO_isNearest_0, rr, sh, Nat.reduceLT, Nat.reduceMul, Int.reduceToNat, Int.reduceGT, Int.reduceGE, Int.reduceNe, true_and, and_true, true_or, or_true, false_or, or_false, and_self, or_self, if_true, if_false, reduceIte, not_true_eq_false, not_false_eq_true, Int.reduceEq, Int.reduceNe, Int.reduceLT, Int.reduceLE, Int.reduceAdd, Int.reduceSub, Int.reduceMul, Int.reduceNeg, Nat.reduceAdd, Nat.reduceLeDiff, Nat.reduceEqDiff, ne_eq, List.length_cons, List.length_nil, Nat.reduceSub, ite10_0, ite10_1, ite10_01, Classical.not_not, f] <;> clear f
  (repeat (refine And.intro (by omega) ?_))
  refine up_nat (P := fun m => ∀ H' z, Fx s596 H H' → nbM H' (nbF (lawB V) (ofs V) m) → R (d + 4) MO_isNearest (blk MO_isNearest 1) [va 71, vi m, z, vu] [] H' Q) ?_ ?_ 0 (Nat.zero_le (2 ^ nS V)) _ vu (Fx.rf.hs (c := 71) (j := 59) rfl) rfl
  · intro H' z b1 a2
    have hH := hV0.fx b1 s596_scr
    have hq := hQ H' b1 a2
    rw [e_MO_isNearest_1]
    unfold nbV at hq
    cases ho : nbF (lawB V) (ofs V) (2 ^ nS V) with
    | none =>
      rw [ho] at a2 hq
      have e1 : H' 71 59 = -1 := a2
      have f := hH.f hM.ptr; simp only [k_MO_isNearest_1, e_MO_isNearest_5, k_MO_isNearest_5, e_MO_isNearest_6, k_MO_isNearest_6, e_MO_isNearest_7, k_MO_isNearest_7, en_MO_seats, e_MO_seats_0, k_MO_seats_0, rr, sh, Nat.reduceLT, Nat.reduceMul, Int.reduceToNat, Int.reduceGT, Int.reduceGE, Int.reduceNe, true_and, and_true, true_or, or_true, false_or, or_false, and_self, or_self, if_true, if_false, reduceIte, not_true_eq_false, not_false_eq_true, Int.reduceEq, Int.reduceNe, Int.reduceLT, Int.reduceLE, Int.reduceAdd, Int.reduceSub, Int.reduceMul, Int.reduceNeg, Nat.reduceAdd, Nat.reduceLeDiff, Nat.reduceEqDiff, ne_eq, List.length_cons, List.length_nil, Nat.reduceSub, ite10_0, ite10_1, ite10_01, Classical.not_not, f, hn.1, e0, e1, Int.le_refl] <;> clear f e0 e1
      exact hq
    | some q =>
      rw [ho] at a2 hq
      have e1 : H' 71 59 = q.1 := a2.1
      have c1 : ¬ (q.1 : Int) = -1 := by omega
      have f := hH.f hM.ptr; simp only [k_MO_isNearest_1, e_MO_isNearest_5, k_MO_isNearest_5, e_MO_isNearest_6, k_MO_isNearest_6, e_MO_isNearest_7, k_MO_isNearest_7, en_MO_seats, e_MO_seats_0, k_MO_seats_0, rr, sh, Nat.reduceLT, Nat.reduceMul, Int.reduceToNat, Int.reduceGT, Int.reduceGE, Int.reduceNe, true_and, and_true, true_or, or_true, false_or, or_false, and_self, or_self, if_true, if_false, reduceIte, not_true_eq_false, not_false_eq_true, Int.reduceEq, Int.reduceNe, Int.reduceLT, Int.reduceLE, Int.reduceAdd, Int.reduceSub, Int.reduceMul, Int.reduceNeg, Nat.reduceAdd, Nat.reduceLeDiff, Nat.reduceEqDiff, ne_eq, List.length_cons, List.length_nil, Nat.reduceSub, ite10_0, ite10_1, ite10_01, Classical.not_not, f, hn.1, e0, e1, c1, Int.le_refl] <;> clear f e0 e1
      exact hq
  · intro m hm ih H' z b1 a2
    have hH := hV0.fx b1 s596_scr
    have c1 : ¬ ((2 ^ nS V : Nat) : Int) ≤ m := by omega
    have hm4 : m < 4096 := by omega
    have eo : nbF (lawB V) (ofs V) (m + 1) = if lawB V m = true then updO (nbF (lawB V) (ofs V) m) m (ofs V m) else nbF (lawB V) (ofs V) m := rfl
    rw [e_MO_isNearest_1]
    have f := hH.f hM.ptr; simp only [k_MO_isNearest_1, e_MO_isNearest_2, k_MO_isNearest_2, e_MO_isNearest_3, k_MO_isNearest_3, e_MO_isNearest_4, k_MO_isNearest_4, en_MO_seats, e_MO_seats_0, k_MO_seats_0, rr, sh, Nat.reduceLT, Nat.reduceMul, Int.reduceToNat, Int.reduceGT, Int.reduceGE, Int.reduceNe, true_and, and_true, true_or, or_true, false_or, or_false, and_self, or_self, if_true, if_false, reduceIte, not_true_eq_false, not_false_eq_true, Int.reduceEq, Int.reduceNe, Int.reduceLT, Int.reduceLE, Int.reduceAdd, Int.reduceSub, Int.reduceMul, Int.reduceNeg, Nat.reduceAdd, Nat.reduceLeDiff, Nat.reduceEqDiff, ne_eq, List.length_cons, List.length_nil, Nat.reduceSub, ite10_0, ite10_1, ite10_01, Classical.not_not, f, hn.1, e0, c1, q_isLawful hM hH hm4, q_offBy hM hH hm4, w32_s (show m < 2147483647 by omega)] <;> clear f e0
    (repeat (refine And.intro (by omega) ?_))
    by_cases hl : lawB V m = true
    · rw [if_pos hl] at eo
      rw [if_pos hl]
      (repeat (refine And.intro (by omega) ?_))
      show if H' 71 59 = -1 then _ else _
      cases ho : nbF (lawB V) (ofs V) m with
      | none =>
        rw [ho] at a2 eo
        have e1 : H' 71 59 = -1 := a2
        rw [if_pos e1]
        (repeat (refine And.intro (by omega) ?_))
        exact ih _ _ ((b1.hs (c := 71) (j := 59) rfl).hs (c := 71) (j := 60) rfl) (by rw [eo]; exact ⟨rfl, rfl⟩)
      | some q =>
        rw [ho] at a2 eo
        obtain ⟨e1, e2⟩ := a2
        have eo : nbF (lawB V) (ofs V) (m + 1) = if ofs V m < q.2 then some (m, ofs V m) else some q := eo
        rw [if_neg (by omega), e2]
        by_cases hlt : ofs V m < q.2
        · rw [if_pos hlt] at eo
          have hlt2 : offV V m (V 71 47) < q.2 := hlt
          rw [if_pos hlt2]
          (repeat (refine And.intro (by omega) ?_))
          exact ih _ _ ((b1.hs (c := 71) (j := 59) rfl).hs (c := 71) (j := 60) rfl) (by rw [eo]; exact ⟨rfl, rfl⟩)
        · rw [if_neg hlt] at eo
          have hlt2 : ¬ offV V m (V 71 47) < q.2 := hlt
          rw [if_neg hlt2]
          (repeat (refine And.intro (by omega) ?_))
          exact ih _ _ b1 (by rw [eo]; exact ⟨e1, e2⟩)
    · rw [if_neg hl] at eo
      rw [if_neg hl]
      (repeat (refine And.intro (by omega) ?_))
      exact ih _ _ b1 (by rw [eo]; exact a2)
/-- who sits by a number -/
def stV (V : Hp) (m : Nat) : Hp := fun a b => if a = 107 ∧ 0 ≤ b ∧ b < nS V then ((dgt (nS V) (nS V) m b.toNat : Nat) : Int) else V a b
def Wv (V H : Hp) : Prop := ∀ a b, scr a b = false → ¬ (a = 107 ∧ 0 ≤ b ∧ b < nS V) → H a b = V a b
theorem stV_c {m : Nat} {a : Int} (h : a ≠ 107) : stV V m a = V a := funext fun b => if_neg (fun z => h z.1)
theorem stV_at {m k : Nat} (h : k < nS V) : stV V m 107 k = dgt (nS V) (nS V) m k := by
  show (if (107 : Int) = 107 ∧ 0 ≤ (k : Int) ∧ (k : Int) < nS V then _ else _) = _
  rw [if_pos ⟨rfl, Int.natCast_nonneg _, Int.ofNat_lt.mpr h⟩]; rfl
theorem stV_off {m k : Nat} (h : nS V ≤ k) : stV V m 107 k = V 107 k := if_neg (fun z => absurd z.2.2 (Int.not_lt.mpr (Int.ofNat_le.mpr h)))
theorem Wv.of {m : Nat} (h : Vw (stV V m) H) : Wv V H := fun a b q1 q2 => (h a b q1).trans (if_neg q2)
theorem stV_S {m : Nat} : nS (stV V m) = nS V := by unfold nS nN; rw [stV_c (by decide)]
theorem stV_R {m : Nat} : nR (stV V m) = nR V := by unfold nR nN; rw [stV_c (by decide)]
theorem stV_inm (hM : Inm V) (hnr : nS V = nR V) {m : Nat} : Inm (stV V m) := by
  have hs : ptL.all (fun q => decide (q.1 ≠ 107)) = true := by decide +kernel
  have hm := hM.crew
  have e71 : stV V m 71 = V 71 := stV_c (by decide)
  refine ⟨fun q hq => ?_, hM.boat.cg (fun a h1 h2 => stV_c (by omega)) (by rw [e71]), by rw [e71]; exact hm.1, by rw [e71, stV_S]; unfold sdV; rw [e71]; exact hm.2.1, fun k hk => ?_, fun k h1 hk => ?_, by rw [e71]; exact hm.seed, by rw [e71]; exact hm.2.2.2.2.2⟩
  · have := of_decide_eq_true (List.all_eq_true.mp hs q hq)
    rw [stV_c this]
    exact hM.ptr q hq
  · rw [stV_S] at hk
    rw [stV_R]
    by_cases hkn : k < nS V
    · rw [stV_at hkn]
      have hd : dgt (nS V) (nS V) m k < nS V := Nat.mod_lt _ (Nat.lt_of_le_of_lt (Nat.zero_le k) hkn)
      rw [← hnr]
      exact ⟨Int.le_trans (by decide) (Int.natCast_nonneg _), Int.ofNat_lt.mpr hd⟩
    · rw [stV_off (Nat.not_lt.mp hkn)]; exact hm.sits k hk
  · rw [stV_S] at h1
    rw [stV_off h1, stV_S, show stV V m 96 = V 96 from stV_c (by decide), show stV V m 97 = V 97 from stV_c (by decide)]; exact hm.off k h1 hk
theorem nbV_stV (hnr : nS V = nR V) {m : Nat} : nbV (stV V m) = ordV V m := by
  have e91 : stV V m 91 = V 91 := stV_c (by decide)
  have e92 : stV V m 92 = V 92 := stV_c (by decide)
  have e93 : stV V m 93 = V 93 := stV_c (by decide)
  have e94 : stV V m 94 = V 94 := stV_c (by decide)
  have e96 : stV V m 96 = V 96 := stV_c (by decide)
  have e97 : stV V m 97 = V 97 := stV_c (by decide)
  have e98 : stV V m 98 = V 98 := stV_c (by decide)
  have e100 : stV V m 100 = V 100 := stV_c (by decide)
  have e101 : stV V m 101 = V 101 := stV_c (by decide)
  have e71 : stV V m 71 = V 71 := stV_c (by decide)
  have hl : lawB (stV V m) = lawB V := by funext b; unfold lawB eaV; rw [stV_S, e94, e98, e71]
  have hg : ∀ q b, sww (stV V m) q b (V 71 47) = swF V (ordF V m) q b := fun q b => by
    unfold sww swF
    rw [stV_S]
    refine sumI_cg fun k hk => ?_
    have hf : frc (stV V m) k (V 71 47) = ordF V m k := by
      unfold frc ordF stg
      rw [stV_at hk, e96, e97, if_neg (fun z => absurd z (by omega))]
    unfold lvr
    rw [hf, e92, e93]
  have ho : ofs (stV V m) = offF V (ordF V m) := by
    funext b
    unfold ofs offV offF gapA gapF wnt
    rw [e71, e100, e101]
    refine congrArg w64 (sumI_cg fun q _ => ?_)
    rw [hg]
  unfold nbV ordV
  rw [hl, ho, stV_S]
end SR
