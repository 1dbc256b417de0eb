/-! QUESTIONS: the class's value at a stroke -/
section QV3
variable {d : Nat} {V H : Hp} {Q : AV → Hp → Prop} {s : List Int} {i : Int}
theorem sww_t {q b : Nat} {t t' : Int} (e : t' / 10 = t / 10) : sww V q b t' = sww V q b t := by unfold sww frc stg; rw [e]
theorem offV_t {b : Nat} {t t' : Int} (e : t' / 10 = t / 10) : offV V b t' = offV V b t := by
  have h : ∀ q, gapA V q b t' = gapA V q b t := fun q => by unfold gapA; rw [sww_t e]
  unfold offV
  simp only [h]
theorem goodB_t {b : Nat} {t t' : Int} (e : t' / 10 = t / 10) : goodB V b t' = goodB V b t := by
  have h : ∀ q, gapA V q b t' = gapA V q b t := fun q => by unfold gapA; rw [sww_t e]
  unfold goodB
  exact decide_eq_decide.mpr ⟨fun z q h1 h2 => by rw [← h q]; exact z q h1 h2, fun z q h1 h2 => by rw [h q]; exact z q h1 h2⟩
theorem KTn.ten {t t' : Int} (h : KTn V H t) (e : t' / 10 = t / 10) : KTn V H t' := by
  obtain ⟨h1, h2, h3, h4⟩ := h
  refine ⟨h1.trans e.symm, fun q hq => by rw [sww_t e]; exact h2 q hq, ?_, ?_⟩
  · unfold qOf at h3 ⊢; rw [offV_t e]; exact h3
  · unfold qGd at h4 ⊢; rw [goodB_t e]; exact h4
def sKT (a b : Int) : Bool := decide (a = 41) || (decide (a = 38) && (decide (b = 5) || (decide (b = 7) || decide (b = 8))))
theorem sKT_scr (a b : Int) (h : sKT a b = true) : scr a b = true := by
  unfold sKT at h
  simp only [Bool.or_eq_true, Bool.and_eq_true, decide_eq_true_eq] at h
  rcases h with rfl | ⟨rfl, rfl | rfl | rfl⟩ <;> rfl
theorem sST_scr (a b : Int) (h : sST a b = true) : scr a b = true := by
  unfold sST at h
  simp only [Bool.or_eq_true, Bool.and_eq_true, decide_eq_true_eq] at h
  rcases h with rfl | ⟨rfl, rfl⟩ <;> rfl
theorem fx_vw {S : Int → Int → Bool} {H' : Hp} (hH : Vw V H) (hF : Fx S H H') (hs : ∀ a b, S a b = true → scr a b = true) : Vw V H' := fun a b q => by
  rw [hF a b (by cases e : S a b with | false => rfl | true => rw [hs a b e] at q; cases q)]
  exact hH a b q
set_option maxRecDepth 20000 in
set_option maxHeartbeats 4000000 in
theorem c_keepTen (hI : Inq V) (hH : Vw V H) (h0 : 0 ≤ i) (h9 : i ≤ 9999) (hk : H 38 5 = -1 ∨ ∃ t, KTn V H t) (hQ : ∀ H', Fx sKT H H' → KTn V H' i → Q vu H') : CC (d + 5) QU_keepTen [va 38, va 4, vi i] H Q := by
  have p6 : H 38 6 = 41 := (hH 38 6 rfl).trans (hI.ptr (38, 6, 41) (by decide +kernel))
  have t5 : i ≤ 100000 := Int.le_trans h9 (by decide)
  have w1 : w32 (i.tdiv 10) = i / 10 := by rw [tdiv_nn h0]; exact w32_id (by omega) (by omega)
  by_cases c : H 38 5 = i / 10
  · have hK : KTn V H i := by
      rcases hk with z | ⟨t, hK⟩
      · exact absurd (z.symm.trans c) (by omega)
      · exact hK.ten (by rw [← c]; exact hK.1)
    have := hQ H Fx.rf hK
    simp only [en_QU_keepTen, e_QU_keepTen_0, k_QU_keepTen_0, rr, sh, Nat.reduceLT, Nat.reduceMul, Int.reduceToNat, Int.reduceGT, Int.reduceGE, Int.reduceNe, true_and, and_true, true_or, or_true, false_or, or_false, and_self, or_self, if_true, if_false, reduceIte, not_true_eq_false, not_false_eq_true, Int.reduceEq, Int.reduceNe, Int.reduceLT, Int.reduceLE, Int.reduceAdd, Int.reduceSub, Int.reduceMul, Int.reduceNeg, Nat.reduceAdd, Nat.reduceLeDiff, Nat.reduceEqDiff, ne_eq, List.length_cons, List.length_nil, Nat.reduceSub, w1, c]
    exact this
  · have key : ∀ k : Nat, k ≤ 4 → ∀ H1, Fx sKT H H1 → H1 38 5 = i / 10 → (∀ q : Nat, q < k → H1 41 q = qcl (w64 (sww V q (sdV V) i))) → R (d + 5) QU_keepTen (blk QU_keepTen 2) [va 38, va 4, vi i, vi k] [] H1 Q := by
      refine up_nat (P := fun k => ∀ H1, Fx sKT H H1 → H1 38 5 = i / 10 → (∀ q : Nat, q < k → H1 41 q = qcl (w64 (sww V q (sdV V) i))) → R (d + 5) QU_keepTen (blk QU_keepTen 2) [va 38, va 4, vi i, vi k] [] H1 Q) ?_ ?_
      · intro H1 F e5 hq
        have v1 := fx_vw hH F sKT_scr
        have ho := fun {Q} => q_offAt (d := d) (Q := Q) hI v1 h0 t5
        have v2 : Vw V (hs H1 38 7 (qOf V i)) := v1.hs rfl
        have hg := fun {Q} => q_isGoodAt (d := d) (Q := Q) hI v2 h0 t5
        have fin : ∀ g : Int, g = qGd V i → Q vu (hs (hs H1 38 7 (qOf V i)) 38 8 g) := fun g eg => by
          refine hQ _ ((F.hs (c := 38) (j := 7) rfl).hs (c := 38) (j := 8) rfl) ⟨?_, fun q h => ?_, ?_, ?_⟩
          · rw [hs2 (by decide), hs2 (by decide)]; exact e5
          · rw [hs_ne' (by decide), hs_ne' (by decide)]; exact hq q h
          · rw [hs2 (by decide)]; exact hs_same
          · rw [hs_same]; exact eg
        have eo : qcl (offV V (sdV V) i) = qOf V i := rfl
        rw [e_QU_keepTen_2]
        by_cases g : goodB V (sdV V) i = true
        · have := fin 1 (by unfold qGd; rw [if_pos g])
          rw [if_pos g] at hg
          simp only [k_QU_keepTen_2, e_QU_keepTen_3, k_QU_keepTen_3, e_QU_keepTen_4, k_QU_keepTen_4, e_QU_keepTen_5, k_QU_keepTen_5, rr, sh, Nat.reduceLT, Nat.reduceMul, Int.reduceToNat, Int.reduceGT, Int.reduceGE, Int.reduceNe, true_and, and_true, true_or, or_true, false_or, or_false, and_self, or_self, if_true, if_false, reduceIte, not_true_eq_false, not_false_eq_true, Int.reduceEq, Int.reduceNe, Int.reduceLT, Int.reduceLE, Int.reduceAdd, Int.reduceSub, Int.reduceMul, Int.reduceNeg, Nat.reduceAdd, Nat.reduceLeDiff, Nat.reduceEqDiff, ne_eq, List.length_cons, List.length_nil, Nat.reduceSub, ho, q_heldC, eo, hg]
          exact this
        · have := fin 0 (by unfold qGd; rw [if_neg g])
          rw [if_neg g] at hg
          simp only [k_QU_keepTen_2, e_QU_keepTen_3, k_QU_keepTen_3, e_QU_keepTen_4, k_QU_keepTen_4, e_QU_keepTen_5, k_QU_keepTen_5, rr, sh, Nat.reduceLT, Nat.reduceMul, Int.reduceToNat, Int.reduceGT, Int.reduceGE, Int.reduceNe, true_and, and_true, true_or, or_true, false_or, or_false, and_self, or_self, if_true, if_false, reduceIte, not_true_eq_false, not_false_eq_true, Int.reduceEq, Int.reduceNe, Int.reduceLT, Int.reduceLE, Int.reduceAdd, Int.reduceSub, Int.reduceMul, Int.reduceNeg, Nat.reduceAdd, Nat.reduceLeDiff, Nat.reduceEqDiff, ne_eq, List.length_cons, List.length_nil, Nat.reduceSub, ho, q_heldC, eo, hg]
          exact this
      · intro k hk4 ih H1 F e5 hq
        have v1 := fx_vw hH F sKT_scr
        have p61 : H1 38 6 = 41 := (F 38 6 rfl).trans p6
        have c1 : ¬ (4 : Int) ≤ (k : Int) := il_n hk4
        have j1 : 0 ≤ (k : Int) ∧ (k : Int) < 4 := ix_n hk4
        have kw := w32_s (n := k) (Nat.lt_trans hk4 (by decide))
        have hw := fun {Q} => q_swingAt (d := d + 1) (Q := Q) hI v1 hk4 h0 t5
        have := ih (hs H1 41 k (qcl (w64 (sww V k (sdV V) i)))) (F.hs (c := 41) rfl) ((hs_ne' (by decide)).trans e5) (fun q h => by
          rw [hs_at, at_z]
          by_cases e : q = k
          · rw [if_pos e, e]
          · rw [if_neg e]; exact hq q (lt_sN h e))
        rw [e_QU_keepTen_2]
        simp only [k_QU_keepTen_2, rr, sh, Nat.reduceLT, Nat.reduceMul, Int.reduceToNat, Int.reduceGT, Int.reduceGE, Int.reduceNe, true_and, and_true, true_or, or_true, false_or, or_false, and_self, or_self, if_true, if_false, reduceIte, not_true_eq_false, not_false_eq_true, Int.reduceEq, Int.reduceNe, Int.reduceLT, Int.reduceLE, Int.reduceAdd, Int.reduceSub, Int.reduceMul, Int.reduceNeg, Nat.reduceAdd, Nat.reduceLeDiff, Nat.reduceEqDiff, ne_eq, List.length_cons, List.length_nil, Nat.reduceSub, p61, c1, j1, hw, q_heldC, kw]
        exact this
    have := key 0 (Nat.zero_le 4) (hs H 38 5 (i / 10)) (Fx.rf.hs (c := 38) (j := 5) rfl) hs_same (fun q hq => absurd hq (Nat.not_lt_zero q))
    simp only [en_QU_keepTen, e_QU_keepTen_0, k_QU_keepTen_0, e_QU_keepTen_1, k_QU_keepTen_1, rr, sh, Nat.reduceLT, Nat.reduceMul, Int.reduceToNat, Int.reduceGT, Int.reduceGE, Int.reduceNe, true_and, and_true, true_or, or_true, false_or, or_false, and_self, or_self, if_true, if_false, reduceIte, not_true_eq_false, not_false_eq_true, Int.reduceEq, Int.reduceNe, Int.reduceLT, Int.reduceLE, Int.reduceAdd, Int.reduceSub, Int.reduceMul, Int.reduceNeg, Nat.reduceAdd, Nat.reduceLeDiff, Nat.reduceEqDiff, ne_eq, List.length_cons, List.length_nil, Nat.reduceSub, w1, c]
    exact this
theorem qLf_bd {e : Int} (h0 : 0 ≤ i) (h9 : i ≤ 9999) (he : e ≤ 99999) : BdQ (qLf V i e) := by
  unfold qLf
  split
  · unfold BdQ; omega
  · split
    · exact bdQ1
    · split
      · unfold BdQ; omega
      · split
        · exact qcl_bd _
        · exact bdQi
theorem qUn_bd {e x : Int} (hB : BoatM V) (h0 : 0 ≤ i) : BdQ (qUn V i e x) := by
  unfold qUn
  split
  · exact bdQi
  · split
    · unfold qSw
      split
      · exact qcl_bd _
      · exact bdQ0
    · unfold qFr
      split
      · next c => exact stg_bd hB c h0
      · exact bdQ0
theorem qJn_bd {e l r : Int} (hl : BdQ l) (hr : BdQ r) : BdQ (qJn e l r) := by
  unfold qJn
  split
  · unfold BdQ at *; omega
  · split
    · unfold BdQ at *; omega
    · split
      · unfold BdQ at *; omega
      · split
        · unfold BdQ at *; omega
        · split
          · exact qcl_bd _
          · split
            · exact qcl_bd _
            · split
              · exact qcl_bd _
              · split
                · exact qFl_bd hl
                · split
                  · exact bdQi
                  · split
                    · exact bdQi
                    · exact bdQi
theorem hd_bd {s : List Int} (h : BdS s) : BdQ (s.headD 0) := by
  cases s with
  | nil => exact bdQ0
  | cons x s => exact h x (List.mem_cons_self ..)
theorem tl_bd {s : List Int} (h : BdS s) : BdS s.tail := by
  cases s with
  | nil => exact h
  | cons x s => exact fun y hy => h y (List.mem_cons_of_mem _ hy)
theorem qst_bd {e : Int} {s : List Int} (hB : BoatM V) (h0 : 0 ≤ i) (h9 : i ≤ 9999) (he : e ≤ 99999) (h : BdS s) : BdS (qst V i e s) := by
  unfold qst
  split
  · exact BdS.cons (qLf_bd h0 h9 he) h
  · split
    · exact BdS.cons (qUn_bd hB h0) (tl_bd h)
    · exact BdS.cons (qJn_bd (hd_bd (tl_bd h)) (hd_bd h)) (tl_bd (tl_bd h))
theorem KTn.fx {H' : Hp} (h : KTn V H i) (hF : Fx sST H H') : KTn V H' i := ⟨(hF 38 5 rfl).trans h.1, fun q hq => (hF 41 q rfl).trans (h.2.1 q hq), (hF 38 7 rfl).trans h.2.2.1, (hF 38 8 rfl).trans h.2.2.2⟩
theorem KoC.fx {cs : List Int} {H' : Hp} (h : KoC H cs) (hF : Fx sST H H') : KoC H' cs := ⟨(hF 38 2 rfl).trans h.1, fun k hk => (hF 39 k rfl).trans (h.2 k hk)⟩
theorem preD {pre es : List Int} {e : Int} : (pre ++ e :: es).getD pre.length 0 = e := by
  rw [List.getD_eq_getElem?_getD, List.getElem?_append_right (Nat.le_refl _), Nat.sub_self]
  rfl
set_option maxRecDepth 20000 in
theorem c_vloop (hI : Inq V) (h0 : 0 ≤ i) (h9 : i ≤ 9999) {cs : List Int} (hcl : cs.length ≤ 1600) : ∀ (es pre : List Int) (s : List Int) (H : Hp) (y : AV), cs = pre ++ es → (y = vu ∨ ∃ v, y = vi v) → Vw V H → KoC H cs → KTn V H i → QSC H s → BdS s → Sfe V i es s →
    (∀ (H' : Hp) (y' : AV), (y' = vu ∨ ∃ v, y' = vi v) → Fx sST H H' → QSC H' (qrun V i es s) → R (d + 6) QU_valueAt (blk QU_valueAt 4) [va 38, va 4, vi i, vi cs.length, y'] [] H' Q) → R (d + 6) QU_valueAt (blk QU_valueAt 1) [va 38, va 4, vi i, vi pre.length, y] [] H Q
  | [], pre, s, H, y, hc, hy, hH, hK, hT, hS, hb, hs', hQ => by
    rw [List.append_nil] at hc
    subst hc
    have := hQ H y hy Fx.rf hS
    have u := hK.1
    rw [e_QU_valueAt_1]
    simp only [k_QU_valueAt_1, rr, sh, Nat.reduceLT, Nat.reduceMul, Int.reduceToNat, Int.reduceGT, Int.reduceGE, Int.reduceNe, true_and, and_true, true_or, or_true, false_or, or_false, and_self, or_self, if_true, if_false, reduceIte, not_true_eq_false, not_false_eq_true, Int.reduceEq, Int.reduceNe, Int.reduceLT, Int.reduceLE, Int.reduceAdd, Int.reduceSub, Int.reduceMul, Int.reduceNeg, Nat.reduceAdd, Nat.reduceLeDiff, Nat.reduceEqDiff, ne_eq, List.length_cons, List.length_nil, Nat.reduceSub, u, Int.le_refl]
    exact this
  | e :: es, pre, s, H, y, hc, hy, hH, hK, hT, hS, hb, hs', hQ => by
    have p1 : H 38 1 = 39 := (hH 38 1 rfl).trans (hI.ptr (38, 1, 39) (by decide +kernel))
    have p3 : H 38 3 = 40 := (hH 38 3 rfl).trans (hI.ptr (38, 3, 40) (by decide +kernel))
    have u := hK.1
    have lt : pre.length < cs.length := by rw [hc, List.length_append, List.length_cons]; omega
    have c1 : ¬ (cs.length : Int) ≤ (pre.length : Int) := il_n lt
    have j1 : 0 ≤ (pre.length : Int) ∧ (pre.length : Int) < 1600 := ix_n (b := 1600) (Nat.lt_of_lt_of_le lt hcl)
    have v : H 39 pre.length = e := by rw [hK.2 _ lt, hc, preD]
    have kw := w32_s (n := pre.length) (Nat.lt_of_lt_of_le lt (Nat.le_trans hcl (by decide)))
    have l1 : (pre ++ [e]).length = pre.length + 1 := len_s
    have hc2 : cs = (pre ++ [e]) ++ es := by rw [hc, List.append_assoc]; rfl
    have ih := fun (H1 : Hp) (F : Fx sST H H1) (hS1 : QSC H1 (qst V i e s)) => c_vloop hI h0 h9 hcl es (pre ++ [e]) (qst V i e s) H1 (vi e) hc2 (Or.inr ⟨e, rfl⟩) (fx_vw hH F sST_scr) (hK.fx F) (hT.fx F) hS1 (qst_bd hI.boat h0 h9 hs'.1.2.1 hb) hs'.2.2 (fun H' y' hy' F' hS' => hQ H' y' hy' (F.tr F') hS')
    rw [l1] at ih
    clear hQ
    rw [e_QU_valueAt_1]
    by_cases c : 0 ≤ e
    · have c' : ¬ e < 0 := by omega
      have a0 : qAr e = 0 := if_pos (Or.inl c)
      have eq : qst V i e s = e :: s := by
        have : qLf V i e = e := if_pos c
        unfold qst
        rw [a0, if_pos rfl, this]
      have hl := hs'.2.1
      rw [eq, List.length_cons] at hl
      rw [eq] at ih
      have hp := fun {Q} => q_pushC (d := d + 5) (Q := Q) (x := e) p3 hS (by omega)
      have := ih _ fx_psh hS.push
      rcases hy with rfl | ⟨y0, rfl⟩
      all_goals
        simp only [k_QU_valueAt_1, e_QU_valueAt_3, k_QU_valueAt_3, rr, sh, Nat.reduceLT, Nat.reduceMul, Int.reduceToNat, Int.reduceGT, Int.reduceGE, Int.reduceNe, true_and, and_true, true_or, or_true, false_or, or_false, and_self, or_self, if_true, if_false, reduceIte, not_true_eq_false, not_false_eq_true, Int.reduceEq, Int.reduceNe, Int.reduceLT, Int.reduceLE, Int.reduceAdd, Int.reduceSub, Int.reduceMul, Int.reduceNeg, Nat.reduceAdd, Nat.reduceLeDiff, Nat.reduceEqDiff, ne_eq, List.length_cons, List.length_nil, Nat.reduceSub, u, p1, c1, j1, v, c', hp, kw]
        exact this
    · have c' : e < 0 := by omega
      have w1 : w32 (-1 - e) = -1 - e := by have := hs'.1.1; exact w32_id (by clear kw; omega) (by clear kw; omega)
      rcases hy with rfl | ⟨y0, rfl⟩
      all_goals
        simp only [k_QU_valueAt_1, e_QU_valueAt_2, k_QU_valueAt_2, rr, sh, Nat.reduceLT, Nat.reduceMul, Int.reduceToNat, Int.reduceGT, Int.reduceGE, Int.reduceNe, true_and, and_true, true_or, or_true, false_or, or_false, and_self, or_self, if_true, if_false, reduceIte, not_true_eq_false, not_false_eq_true, Int.reduceEq, Int.reduceNe, Int.reduceLT, Int.reduceLE, Int.reduceAdd, Int.reduceSub, Int.reduceMul, Int.reduceNeg, Nat.reduceAdd, Nat.reduceLeDiff, Nat.reduceEqDiff, ne_eq, List.length_cons, List.length_nil, Nat.reduceSub, u, p1, c1, j1, v, c', w1]
        refine c_apply hI hH hT h0 h9 hS hs'.1 c hs'.2.1 hb (fun H1 F hS1 => ?_)
        have := ih H1 F hS1
        simp only [e_QU_valueAt_3, k_QU_valueAt_3, rr, sh, Nat.reduceLT, Nat.reduceMul, Int.reduceToNat, Int.reduceGT, Int.reduceGE, Int.reduceNe, true_and, and_true, true_or, or_true, false_or, or_false, and_self, or_self, if_true, if_false, reduceIte, not_true_eq_false, not_false_eq_true, Int.reduceEq, Int.reduceNe, Int.reduceLT, Int.reduceLE, Int.reduceAdd, Int.reduceSub, Int.reduceMul, Int.reduceNeg, Nat.reduceAdd, Nat.reduceLeDiff, Nat.reduceEqDiff, ne_eq, List.length_cons, List.length_nil, Nat.reduceSub, kw]
        exact this
/-- what a question's codes tell at a stroke -/
def vQ (V : Hp) (cs : List Int) (i : Int) : Int := (qrun V i cs []).headD 0
def sVA (a b : Int) : Bool := sST a b || sKT a b
theorem sST_va (a b : Int) (h : sST a b = true) : sVA a b = true := by unfold sVA; rw [h]; rfl
theorem sKT_va (a b : Int) (h : sKT a b = true) : sVA a b = true := by unfold sVA; rw [h, Bool.or_true]
theorem KoC.kt {cs : List Int} {H' : Hp} (h : KoC H cs) (hF : Fx sKT H H') : KoC H' cs := ⟨(hF 38 2 rfl).trans h.1, fun k hk => (hF 39 k rfl).trans (h.2 k hk)⟩
set_option maxRecDepth 20000 in
theorem c_valueAt (hI : Inq V) (hH : Vw V H) (h0 : 0 ≤ i) (h9 : i ≤ 9999) {cs : List Int} (hcl : cs.length ≤ 1600) {n : Nat} {b : Bool} (hn : n ≤ 40) (hw : WFq V cs n b) (hK : KoC H cs) (hT1 : KTn V H i)
    (hQ : ∀ H', Fx sVA H H' → KTn V H' i → Q (vl (vQ V cs i)) H') : CC (d + 6) QU_valueAt [va 38, va 4, vi i] H Q := by
  obtain ⟨hs', v, hv, bv, -⟩ := hw i h0 h9 [] (fun x hx => by cases hx) (by rw [List.length_nil]; omega)
  have ev : vQ V cs i = v := by unfold vQ; rw [hv]; rfl
  rw [ev] at hQ
  simp only [en_QU_valueAt, e_QU_valueAt_0, k_QU_valueAt_0, rr, sh, Nat.reduceLT, Nat.reduceMul, Int.reduceToNat, Int.reduceGT, Int.reduceGE, Int.reduceNe, true_and, and_true, true_or, or_true, false_or, or_false, and_self, or_self, if_true, if_false, reduceIte, not_true_eq_false, not_false_eq_true, Int.reduceEq, Int.reduceNe, Int.reduceLT, Int.reduceLE, Int.reduceAdd, Int.reduceSub, Int.reduceMul, Int.reduceNeg, Nat.reduceAdd, Nat.reduceLeDiff, Nat.reduceEqDiff, ne_eq, List.length_cons, List.length_nil, Nat.reduceSub]
  have F2 : Fx sST H (hs H 38 4 0) := fx_pop1
  have S2 : QSC (hs H 38 4 0) [] := ⟨hs_same, fun k hk => absurd hk (Nat.not_lt_zero k)⟩
  have := c_vloop (d := d) (Q := Q) hI h0 h9 hcl cs [] [] (hs H 38 4 0) vu rfl (Or.inl rfl) (fx_vw hH F2 sST_scr) (hK.fx F2) (hT1.fx F2) S2 (fun x hx => by cases hx) hs' (fun H' y' hy' F' hS' => by
    rw [hv] at hS'
    have G := F2.tr F'
    have p3 : H' 38 3 = 40 := (fx_vw hH G sST_scr 38 3 rfl).trans (hI.ptr (38, 3, 40) (by decide +kernel))
    have hp := fun {Q} => q_popC (d := d + 5) (Q := Q) p3 hS' (by decide)
    have G2 := G.tr (fx_pop1 (H := H') (m := ((([] : List Int).length : Nat) : Int)))
    have fin := hQ _ (G2.up sST_va) (hT1.fx G2)
    rcases hy' with rfl | ⟨y0, rfl⟩
    all_goals
      simp only [e_QU_valueAt_4, k_QU_valueAt_4, rr, sh, Nat.reduceLT, Nat.reduceMul, Int.reduceToNat, Int.reduceGT, Int.reduceGE, Int.reduceNe, true_and, and_true, true_or, or_true, false_or, or_false, and_self, or_self, if_true, if_false, reduceIte, not_true_eq_false, not_false_eq_true, Int.reduceEq, Int.reduceNe, Int.reduceLT, Int.reduceLE, Int.reduceAdd, Int.reduceSub, Int.reduceMul, Int.reduceNeg, Nat.reduceAdd, Nat.reduceLeDiff, Nat.reduceEqDiff, ne_eq, List.length_cons, List.length_nil, Nat.reduceSub, hp]
      exact fin)
  exact this
end QV3
