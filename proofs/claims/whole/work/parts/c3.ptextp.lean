/-! text: the pair -/
theorem lim_0 {a : Int} (h : a < 91 ∨ 106 < a) : limF 4 12 1 4 96 8 a = 0 := by
  unfold limF
  rw [if_neg (show ¬ a = 91 by omega), if_neg (show ¬ a = 92 by omega), if_neg (show ¬ a = 93 by omega), if_neg (show ¬ a = 94 by omega), if_neg (show ¬ a = 95 by omega), if_neg (show ¬ a = 96 by omega), if_neg (show ¬ a = 97 by omega), if_neg (show ¬ a = 98 by omega), if_neg (show ¬ a = 99 by omega), if_neg (show ¬ a = 100 by omega), if_neg (show ¬ a = 101 by omega), if_neg (show ¬ a = 102 by omega), if_neg (show ¬ a = 103 by omega), if_neg (show ¬ a = 104 by omega), if_neg (show ¬ a = 105 by omega), if_neg (show ¬ a = 106 by omega)]
theorem lim_fh {a : Int} {k : Nat} (h : k < limF 4 12 1 4 96 8 a) : fh a k = true := by
  by_cases h91 : a = 91
  · subst h91
    have h : k < 4 := h
    exact decide_eq_true (by omega)
  by_cases h92 : a = 92
  · subst h92
    have h : k < 12 := h
    exact decide_eq_true (by omega)
  by_cases h93 : a = 93
  · subst h93
    have h : k < 12 := h
    exact decide_eq_true (by omega)
  by_cases h94 : a = 94
  · subst h94
    have h : k < 12 := h
    exact decide_eq_true (by omega)
  by_cases h95 : a = 95
  · subst h95
    have h : k < 12 := h
    exact decide_eq_true (by omega)
  by_cases h96 : a = 96
  · subst h96
    have h : k < 12 := h
    exact decide_eq_true (by omega)
  by_cases h97 : a = 97
  · subst h97
    have h : k < 12 := h
    exact decide_eq_true (by omega)
  by_cases h98 : a = 98
  · subst h98
    have h : k < 1 := h
    exact decide_eq_true (by omega)
  by_cases h99 : a = 99
  · subst h99
    have h : k < 1 := h
    exact decide_eq_true (by omega)
  by_cases h100 : a = 100
  · subst h100
    have h : k < 4 := h
    exact decide_eq_true (by omega)
  by_cases h101 : a = 101
  · subst h101
    have h : k < 4 := h
    exact decide_eq_true (by omega)
  by_cases h102 : a = 102
  · subst h102
    have h : k < 96 := h
    exact decide_eq_true (by omega)
  by_cases h103 : a = 103
  · subst h103
    have h : k < 8 := h
    exact decide_eq_true (by omega)
  by_cases h104 : a = 104
  · subst h104
    have h : k < 8 := h
    exact decide_eq_true (by omega)
  by_cases h105 : a = 105
  · subst h105
    have h : k < 12 := h
    exact decide_eq_true (by omega)
  by_cases h106 : a = 106
  · subst h106
    have h : k < 12 := h
    exact decide_eq_true (by omega)
  unfold limF at h
  rw [if_neg h91, if_neg h92, if_neg h93, if_neg h94, if_neg h95, if_neg h96, if_neg h97, if_neg h98, if_neg h99, if_neg h100, if_neg h101, if_neg h102, if_neg h103, if_neg h104, if_neg h105, if_neg h106] at h
  exact absurd h (Nat.not_lt_zero k)
section PZ
variable {d : Nat} {V : Hp}
theorem sTxR_er (p a b : Int) (h : sTxR a b = true) : sER p a b = true := by unfold sER; rw [h]; simp
theorem sTxR_ok (p a b : Int) (h : sTxR a b = true) : sOK p a b = true := by unfold sOK; rw [h]; simp
theorem sCE_er (p a b : Int) (h : sCE p a b = true) : sER p a b = true := by unfold sER; rw [h]; simp
theorem sCO_ok (p a b : Int) (h : sCO p a b = true) : sOK p a b = true := by unfold sOK; rw [h]; simp
theorem sCE_n {p : Int} (hp : p = 5 ∨ p = 25) {a b : Int} (h : 70 < a) : sCE p a b = false := by
  unfold sCE
  rw [sCX_n hp (by omega) (by omega) (by omega), decide_eq_false (show ¬ a = 70 by omega), decide_eq_false (show ¬ a = 1 by omega), decide_eq_false (show ¬ a = 2 by omega)]
  rfl
theorem sCO_n {p : Int} (hp : p = 5 ∨ p = 25) {a b : Int} (h : 58 < a) : sCO p a b = false := by
  unfold sCO sBD
  rw [sCX_n hp (by omega) (by omega) (by omega), decide_eq_false (show ¬ a = 18 by omega), decide_eq_false (show ¬ a = 19 by omega), decide_eq_false (show ¬ a = 4 by omega), decide_eq_false (show ¬ a = 58 by omega), decide_eq_false (show ¬ a = 1 by omega), decide_eq_false (show ¬ a = 2 by omega)]
  rfl
theorem wds_ce {H H' : Hp} {p : Int} (hp : p = 5 ∨ p = 25) (h : Wds H) (hF : Fx (sCE p) H H') : Wds H' := by
  rcases hp with rfl | rfl
  · exact wds_fx h hF (by decide +kernel)
  · exact wds_fx h hF (by decide +kernel)
theorem wds_co {H H' : Hp} {p : Int} (hp : p = 5 ∨ p = 25) (h : Wds H) (hF : Fx (sCO p) H H') : Wds H' := by
  rcases hp with rfl | rfl
  · exact wds_fx h hF (by decide +kernel)
  · exact wds_fx h hF (by decide +kernel)
theorem mo_lo {a b : Int} (h : a ≠ 71) (h2 : a < 91) : sTxR a b = false := sTxR_o h (Or.inl h2)
set_option maxRecDepth 20000 in
theorem p_text (h : Inv0 V) : Pair V (d + 40) EO_text MO_text [va 1] [va 71] := by
  have hI := h.1
  have hT := h.2.1
  have hR := h.2.2.2.1
  have hWd := h.2.2.2.2.2.2.2.1
  obtain ⟨p, hp, h12, h40⟩ : ∃ p : Int, (p = 5 ∨ p = 25) ∧ V 1 2 = p ∧ V 4 0 = 30 - p := by
    have hC := hI.2.2.2.2
    refine ⟨30 - V 4 0, ?_, hC.2.1, by omega⟩
    rcases hC.1 with e | e <;> rw [e] <;> decide
  have e71 : V 71 1 = tpN V := hT.2.1.trans (tpN_eq hT)
  unfold Pair
  show CC ((d + 32) + 8) EO_text [va 1] V _
  refine c_EOtext (d := d + 32) hp h12 hT hI.ptr hI.boat (fun kk pl z H1 F c11 c12 c21 c70 => ?_) (fun n P' z H1 F c11 c12 c21 w12 w40 w43 w44 w411 w58 wk hL => ?_)
  · have k0 := txO_er 70 0 (-1) (P0T V) z
    have cc : ∀ a : Int, 70 < a → H1 a = V a := fun a ha => F.cell a (fun b => sCE_n hp ha)
    show CC ((d + 34) + 6) MO_text [va 71] H1 _
    refine c_textM (d := d + 34) hT (ptr_ce hp hI.ptr F) (wds_ce hp hWd F) (cc 72 (by decide)) (by rw [cc 71 (by decide)]; exact e71) hI.boat (fun a b q => by rw [cc a (by have := of_decide_eq_true q; omega)]) (fun kk' pl' z' H2 G q5 q6 q1 => ?_) (fun n' P2 z' H2 G q5 q6 q1 q45 hL2 => ?_)
    · rw [z] at z'
      have ze := Prod.mk.inj (Except.error.inj z')
      rw [← ze.1] at q5
      rw [← ze.2] at q6
      have g9 : H2 71 9 = 73 := (G 71 9 rfl).trans (by rw [cc 71 (by decide)]; exact hI.ptr (71, 9, 73) (by decide +kernel))
      have g73 : H2 73 = V 73 := (G.cell 73 (fun b => mo_lo (by decide) (by decide))).trans (cc 73 (by decide))
      have g70 : H2 70 = H1 70 := G.cell 70 (fun b => mo_lo (by decide) (by decide))
      have FW : Fx (sER p) V (hs (hs (hs H2 71 7 kk) 71 8 pl) 73 1 (w32 (H2 73 1 + 1))) := ((((F.up (sCE_er p)).tr (G.up (sTxR_er p))).hs (c := 71) (j := 7) (by unfold sER; simp)).hs (c := 71) (j := 8) (by unfold sER; simp)).hs (c := 73) (j := 1) (by unfold sER; simp)
      have inv : Inv0 (hs (hs (hs H2 71 7 kk) 71 8 pl) 73 1 (w32 (H2 73 1 + 1))) := by
        refine inv_er h hp h40 FW ?_ ?_ ?_ ?_ (fun k hk => ?_)
        · rw [hs_ne' (by decide), hs_ne' (by decide), hs_ne' (by decide), hs_ne' (by decide), hs2 (by decide), hs_same, G 1 11 (mo_lo (by decide) (by decide))]; exact c11
        · rw [hs_ne' (by decide), hs_ne' (by decide), hs_ne' (by decide), hs_ne' (by decide), hs_same, G 1 12 (mo_lo (by decide) (by decide))]; exact c12
        · rw [hs_ne' (by decide), hs_ne' (by decide), hs_ne' (by decide), G 2 1 (mo_lo (by decide) (by decide))]; exact c21
        · rw [hs_ne' (by decide), hs2 (by decide), hs2 (by decide)]; exact q1
        · rw [hs_ne' (by decide), hs_ne' (by decide), hs_ne' (by decide), g70, c70, hs_at, g73, hs_ne' (by decide), hs_ne' (by decide), g73]
          have := hR k hk
          have r1 := hR 1 (by decide)
          by_cases c : (k : Int) = 1
          · rw [if_pos c, if_pos c]
            exact congrArg (fun x => w32 (x + 1)) r1
          · rw [if_neg c, if_neg c]; exact this
      simp only [e_MO_text_5, k_MO_text_5, rr, sh, Nat.reduceLT, Nat.reduceMul, Int.reduceToNat, Int.reduceGT, Int.reduceGE, Int.reduceNe, true_and, and_true, true_or, or_true, false_or, or_false, and_self, or_self, if_true, if_false, reduceIte, not_true_eq_false, not_false_eq_true, Int.reduceEq, Int.reduceNe, Int.reduceLT, Int.reduceLE, Int.reduceAdd, Int.reduceSub, Int.reduceMul, Int.reduceNeg, Nat.reduceAdd, Nat.reduceLeDiff, Nat.reduceEqDiff, ne_eq, List.length_cons, List.length_nil, Nat.reduceSub, hs_app, false_and, and_false, q5, q6, k0, g9]
      exact inv
    · rw [z] at z'; cases z'
  · have cc : ∀ a : Int, 58 < a → H1 a = V a := fun a ha => F.cell a (fun b => sCO_n hp ha)
    show CC ((d + 34) + 6) MO_text [va 71] H1 _
    refine c_textM (d := d + 34) hT (ptr_co hp hI.ptr F) (wds_co hp hWd F) (cc 72 (by decide)) (by rw [cc 71 (by decide)]; exact e71) hI.boat (fun a b q => by rw [cc a (by have := of_decide_eq_true q; omega)]) (fun kk' pl' z' H2 G q5 q6 q1 => ?_) (fun n' P2 z' H2 G q5 q6 q1 q45 hL2 => ?_)
    · rw [z] at z'; cases z'
    · rw [z] at z'
      have ze := Prod.mk.inj (Except.ok.inj z')
      rw [← ze.1] at q45
      rw [← ze.2] at hL2
      have hB' := txO_B 70 0 (-1) (P0T V) (P0T_B hI.boat) z
      have FX : Fx (sOK p) V (hs (hs H2 71 7 0) 71 8 (-1)) := (((F.up (sCO_ok p)).tr (G.up (sTxR_ok p))).hs (c := 71) (j := 7) (by unfold sOK; simp)).hs (c := 71) (j := 8) (by unfold sOK; simp)
      have PX : Ptr (hs (hs H2 71 7 0) 71 8 (-1)) := by
        rcases hp with rfl | rfl
        · exact ptr_fx hI.ptr FX (by decide +kernel)
        · exact ptr_fx hI.ptr FX (by decide +kernel)
      have LX : TmP P' (hs (hs H2 71 7 0) 71 8 (-1)) := fun a b q => by rw [hs_ne' (fh_71 q), hs_ne' (fh_71 q)]; exact hL2 a b q
      have x1 : hs (hs H2 71 7 0) 71 8 (-1) 71 1 = 0 := by rw [hs2 (by decide), hs2 (by decide)]; exact q1
      have x45 : hs (hs H2 71 7 0) 71 8 (-1) 71 45 = (n : Int) := by rw [hs2 (by decide), hs2 (by decide)]; exact q45
      have x7 : hs (hs H2 71 7 0) 71 8 (-1) 71 7 = 0 := by rw [hs2 (by decide)]; exact hs_same
      have x8 : hs (hs H2 71 7 0) 71 8 (-1) 71 8 = -1 := hs_same
      have xo : ∀ a b : Int, a ≠ 71 → a < 91 → hs (hs H2 71 7 0) 71 8 (-1) a b = H1 a b := fun a b h1 h2 => by rw [hs_ne' h1, hs_ne' h1]; exact G a b (mo_lo h1 h2)
      simp only [e_MO_text_5, k_MO_text_5, e_MO_text_6, k_MO_text_6, rr, sh, Nat.reduceLT, Nat.reduceMul, Int.reduceToNat, Int.reduceGT, Int.reduceGE, Int.reduceNe, true_and, and_true, true_or, or_true, false_or, or_false, and_self, or_self, if_true, if_false, reduceIte, not_true_eq_false, not_false_eq_true, Int.reduceEq, Int.reduceNe, Int.reduceLT, Int.reduceLE, Int.reduceAdd, Int.reduceSub, Int.reduceMul, Int.reduceNeg, Nat.reduceAdd, Nat.reduceLeDiff, Nat.reduceEqDiff, ne_eq, List.length_cons, List.length_nil, Nat.reduceSub, hs_app, false_and, and_false, q5, q6]
      generalize hs (hs H2 71 7 0) 71 8 (-1) = X at *
      show CC ((d + 38) + 1) MO_stands [va 71] X _
      refine c_stands (d := d + 38) PX hB' LX (fun Z hZ => ?_)
      obtain ⟨Y, hY, za, zb, ⟨m46, m47, m48, m49, m55⟩, z107⟩ := hZ
      have zX : ∀ a : Int, a ≠ 71 → (a < 91 ∨ 107 < a) → Z a = X a := fun a h1 h2 => (za a h1 (by omega)).trans (hY.c (lim_0 (by omega)))
      have zm : ∀ b : Int, (b ≠ 46 ∧ b ≠ 47 ∧ b ≠ 48 ∧ b ≠ 49 ∧ b ≠ 55) → Z 71 b = X 71 b := fun b hb => (zb b hb).trans (by rw [hY.c (a := 71) (lim_0 (by decide))])
      have zo : ∀ a b : Int, a ≠ 71 → a < 91 → Z a b = H1 a b := fun a b h1 h2 => by rw [zX a h1 (Or.inl h2)]; exact xo a b h1 h2
      have FZ : Fx (sOK p) V Z := fun a b q => by
        have n1 : ¬ (91 ≤ a ∧ a ≤ 107) := fun z => by unfold sOK at q; rw [decide_eq_true z.1, decide_eq_true z.2] at q; simp at q
        by_cases c : a = 71
        · subst c
          have nb : b ≠ 46 ∧ b ≠ 47 ∧ b ≠ 48 ∧ b ≠ 49 ∧ b ≠ 55 := by
            refine ⟨fun z => ?_, fun z => ?_, fun z => ?_, fun z => ?_, fun z => ?_⟩ <;> (subst z; unfold sOK at q; simp at q)
          rw [zm b nb]; exact FX 71 b q
        · rw [zX a c (by omega)]; exact FX a b q
      have z45 : Z 71 45 = (n : Int) := (zm 45 (by decide)).trans x45
      have hpn : ∀ a : Int, p ≤ a → a ≤ p + 12 → a ≠ 71 ∧ a < 91 := fun a h1 h2 => by rcases hp with rfl | rfl <;> omega
      have LZ : PlT P' Z p := hL.cg (fun a h1 h2 => funext fun b => zo a b (hpn a h1 h2).1 (hpn a h1 h2).2)
      have inv : Inv0 Z := by
        refine inv_okT h hp h40 hB' FZ ?_ ?_ ?_ ?_ ?_ ?_ ?_ ?_ ?_ ?_ (fun i hi => ?_) LZ (fun a k hk b hb => ?_) m46 m47 m48 m49 m55 z107
        · rw [zo 1 11 (by decide) (by decide), zm 7 (by decide), x7]; exact c11
        · rw [zo 1 12 (by decide) (by decide), zm 8 (by decide), x8]; exact c12
        · rw [zo 2 1 (by decide) (by decide)]; exact c21
        · rw [zm 1 (by decide)]; exact x1
        · rw [zo 1 2 (by decide) (by decide)]; exact w12
        · rw [zo 4 0 (by decide) (by decide)]; exact w40
        · rw [zo 4 3 (by decide) (by decide)]; exact w43
        · rw [zo 4 4 (by decide) (by decide)]; exact w44
        · rw [zo 4 11 (by decide) (by decide)]; exact w411
        · rw [zo 58 7 (by decide) (by decide)]; exact w58
        · rw [zo 18 i (by decide) (by decide), zo 19 i (by decide) (by decide)]; exact wk i hi
        · have q := lim_fh hk
          have q' := of_decide_eq_true q
          rw [za a (fh_71 q) (by omega), hY.hi hk hb]
          exact LX a k q
      simp only [rr, sh, Nat.reduceLT, Nat.reduceMul, Int.reduceToNat, Int.reduceGT, Int.reduceGE, Int.reduceNe, true_and, and_true, true_or, or_true, false_or, or_false, and_self, or_self, if_true, if_false, reduceIte, not_true_eq_false, not_false_eq_true, Int.reduceEq, Int.reduceNe, Int.reduceLT, Int.reduceLE, Int.reduceAdd, Int.reduceSub, Int.reduceMul, Int.reduceNeg, Nat.reduceAdd, Nat.reduceLeDiff, Nat.reduceEqDiff, ne_eq, List.length_cons, List.length_nil, Nat.reduceSub, z45]
      exact inv
end PZ
