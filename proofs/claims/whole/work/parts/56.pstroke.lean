/-! stroke: the pair keeps the state -/
section PS
variable {d : Nat} {V : Hp}
theorem nt_c {k a b : Int} {c : Int} (h : c ≠ 20 ∧ c ≠ 21 ∧ c ≠ 22 ∧ c ≠ 23 ∧ c ≠ 4) : ntH V k a b c = V c := by
  unfold ntH
  rw [hs_ne h.2.2.2.2, hs_ne h.2.2.2.2, hs_ne h.2.2.2.1, hs_ne h.2.2.1, hs_ne h.2.1, hs_ne h.1]
theorem nt_4 {k a b j : Int} (h : j ≠ 10 ∧ j ≠ 11) : ntH V k a b 4 j = V 4 j := by
  unfold ntH
  rw [hs_app, if_neg (fun z => h.2 z.2), hs_app, if_neg (fun z => h.1 z.2), hs_ne (by decide), hs_ne (by decide), hs_ne (by decide), hs_ne (by decide)]
/-- the pair keeps the state, and answers alike -/
def Pair (V : Hp) (d me mo : Nat) (a b : List AV) : Prop := CC d me a V (fun r H1 => CC d mo b H1 (fun r2 H2 => r = r2 ∧ Inv0 H2))
set_option maxRecDepth 20000 in
theorem p_stroke (h : Inv0 V) {n : Int} : Pair V (d + 3) EO_stroke MO_stroke [va 1, vi n] [va 71, vi n] := by
  have hI := h.1
  have hA := h.2.2.2.2.2.1
  have hst := hI.cc.stroke
  have ht := hI.crew.stroke
  unfold Pair
  rw [q_strokeC hI hA Vw.rf]
  by_cases hg : (1 ≤ n ∧ n ≤ 200) ∧ V 71 47 + n ≤ 9999
  · rw [if_pos hg]
    have hS1 : Fx actS V (hs (ntH V 2 n (-1)) 4 3 (V 71 47 + n)) := nt_act.hs (c := 4) (j := 3) rfl
    have c71 : hs (ntH V 2 n (-1)) 4 3 (V 71 47 + n) 71 = V 71 := by rw [hs_ne (by decide), nt_c (by decide)]
    have c107 : hs (ntH V 2 n (-1)) 4 3 (V 71 47 + n) 107 = V 107 := by rw [hs_ne (by decide), nt_c (by decide)]
    have c91 : hs (ntH V 2 n (-1)) 4 3 (V 71 47 + n) 91 = V 91 := by rw [hs_ne (by decide), nt_c (by decide)]
    have c108 : hs (ntH V 2 n (-1)) 4 3 (V 71 47 + n) 108 = V 108 := by rw [hs_ne (by decide), nt_c (by decide)]
    have c109 : hs (ntH V 2 n (-1)) 4 3 (V 71 47 + n) 109 = V 109 := by rw [hs_ne (by decide), nt_c (by decide)]
    have c110 : hs (ntH V 2 n (-1)) 4 3 (V 71 47 + n) 110 = V 110 := by rw [hs_ne (by decide), nt_c (by decide)]
    have c111 : hs (ntH V 2 n (-1)) 4 3 (V 71 47 + n) 111 = V 111 := by rw [hs_ne (by decide), nt_c (by decide)]
    have d43 : hs (ntH V 2 n (-1)) 4 3 (V 71 47 + n) 4 3 = V 71 47 + n := hs_same
    have d4 : ∀ j, j ≠ 3 → hs (ntH V 2 n (-1)) 4 3 (V 71 47 + n) 4 j = ntH V 2 n (-1) 4 j := fun j hj => by rw [hs_app, if_neg (fun z => hj z.2)]
    have d20 : ∀ c : Int, c ≠ 4 → hs (ntH V 2 n (-1)) 4 3 (V 71 47 + n) c = ntH V 2 n (-1) c := fun c hc => hs_ne hc
    generalize hs (ntH V 2 n (-1)) 4 3 (V 71 47 + n) = H1 at *
    have hM1 : Inm H1 := ⟨hS1.actP hI.ptr, hS1.actB hI.boat, hI.crew.cg c91 c107 (by rw [c71]) (by rw [c71]) (by rw [c71]) (by rw [c71]) (hS1.cell 96 (fun _ => rfl)) (hS1.cell 97 (fun _ => rfl))⟩
    obtain ⟨hm, a1, a2, c, hc, hc30, hrest⟩ := id hA
    refine c_strokeM hM1 (by rw [c71]; exact hm) (by rw [c71, hc]; omega) (fun q => absurd (by rw [c71]; exact hg) q) (fun _ H2 hK => ?_)
    rw [c71]
    refine ⟨rfl, ?_⟩
    have hR : RingR V H2 2 n (-1) := by
      refine ring_of hA hI.cc.heading ?_ ?_ ?_ (d20 20 (by decide)) (d20 21 (by decide)) (d20 22 (by decide)) (d20 23 (by decide)) (fun j _ _ => by rw [c71]) c107 c108 c109 c110 c111 hK
      · intro x y q
        by_cases e : x = 4 ∧ y = 3
        · rw [e.1, e.2] at q; cases q
        · by_cases e4 : x = 4
          · subst e4; exact d4 y (fun z => e ⟨rfl, z⟩)
          · rw [d20 x e4]
      · rw [d4 10 (by decide)]; unfold ntH; rw [hs_app, if_neg (by decide)]; exact hs_same
      · rw [d4 11 (by decide)]; unfold ntH; exact hs_same
    have hS2 : Fx actS V H2 := hS1.tr (hK.1.up sKP_act)
    have hS3 : Fx actS V (hs H2 71 47 (V 71 47 + n)) := hS2.hs (c := 71) (j := 47) rfl
    have k71 : ∀ j, j ≠ 47 → hs H2 71 47 (V 71 47 + n) 71 j = H2 71 j := fun j hj => by rw [hs_app, if_neg (fun z => hj z.2)]
    have k47 : hs H2 71 47 (V 71 47 + n) 71 47 = V 71 47 + n := hs_same
    have kc : ∀ c : Int, c ≠ 71 → hs H2 71 47 (V 71 47 + n) c = H2 c := fun c hc => hs_ne hc
    have g48 : H2 71 48 = V 71 48 := (hK.1 71 48 rfl).trans (by rw [c71])
    have g49 : H2 71 49 = V 71 49 := (hK.1 71 49 rfl).trans (by rw [c71])
    have g57 : H2 71 57 = V 71 57 := (hK.1 71 57 rfl).trans (by rw [c71])
    have g107 : H2 107 = V 107 := (hK.1.cell 107 (fun _ => rfl)).trans c107
    have g91 : H2 91 = V 91 := (hK.1.cell 91 (fun _ => rfl)).trans c91
    have g4 : H2 4 = H1 4 := hK.1.cell 4 (fun _ => rfl)
    have g18 : H2 18 = V 18 := (hK.1.cell 18 (fun _ => rfl)).trans ((d20 18 (by decide)).trans (nt_c (by decide)))
    have g19 : H2 19 = V 19 := (hK.1.cell 19 (fun _ => rfl)).trans ((d20 19 (by decide)).trans (nt_c (by decide)))
    have g1 : H2 1 = V 1 := (hK.1.cell 1 (fun _ => rfl)).trans ((d20 1 (by decide)).trans (nt_c (by decide)))
    generalize hs H2 71 47 (V 71 47 + n) = H3 at *
    have hcm := hI.crew
    have hcc := hI.cc
    have eS : nS H3 = nS V := by unfold nS nN; rw [kc 91 (by decide), g91]
    have eR : nR H3 = nR V := by unfold nR nN; rw [kc 91 (by decide), g91]
    have eD : sdV H3 = sdV V := by unfold sdV; rw [k71 49 (by decide), g49]
    have hq : Inq H3 := by
      refine ⟨hS3.actP hI.ptr, hS3.actB hI.boat, ?_, ?_, ?_⟩
      · refine ⟨by rw [k47]; exact ⟨by omega, hg.2⟩, ?_, ?_, ?_, ?_, ?_⟩
        · rw [k71 49 (by decide), g49, eS, eD]; exact hcm.2.1
        · rw [kc 107 (by decide), g107, eR, eS]; exact hcm.2.2.1
        · rw [kc 107 (by decide), g107, eS, hS3.cell 96 (fun _ => rfl), hS3.cell 97 (fun _ => rfl)]; exact hcm.2.2.2.1
        · rw [k71 57 (by decide), g57]; exact hcm.2.2.2.2.1
        · rw [k71 48 (by decide), g48]; exact hcm.2.2.2.2.2
      · rw [show H3 4 0 = V 4 0 by rw [kc 4 (by decide), g4, d4 0 (by decide), nt_4 (by decide)]]
        exact hS3.actL hI.pp hI.plan
      · unfold CrewC
        rw [eS, eD, kc 4 (by decide), g4, d43, k47, d4 0 (by decide), d4 4 (by decide), d4 5 (by decide), nt_4 (by decide), nt_4 (by decide), nt_4 (by decide), kc 1 (by decide), g1, k71 48 (by decide), g48, k71 57 (by decide), g57, kc 18 (by decide), g18, kc 107 (by decide), g107, kc 19 (by decide), g19]
        exact ⟨hcc.1, hcc.2.1, rfl, hcc.2.2.2.1, hcc.2.2.2.2.1, hcc.2.2.2.2.2.1, hcc.2.2.2.2.2.2⟩
    have hR3 : RingR V H3 2 n (-1) := by
      obtain ⟨r1, r2, r3, r4, r5, r6, r7, r8, r9, r10, r11, r12, r13, r14⟩ := hR
      unfold RingR
      rw [k71 56 (by decide), k71 55 (by decide), kc 4 (by decide), kc 91 (by decide), kc 94 (by decide), kc 108 (by decide), kc 109 (by decide), kc 110 (by decide), kc 111 (by decide), kc 20 (by decide), kc 21 (by decide), kc 22 (by decide), kc 23 (by decide)]
      exact ⟨r1, r2, r3, r4, r5, r6, r7, r8, r9, r10, r11, r12, r13, r14⟩
    refine h.act hS3 hq (ActR.push hA hI.boat.s.2 hI.crew hR3 ?_)
    obtain ⟨r1, r2, r3, r4, r5, r6, r7, r8, r9, r10, r11, r12, r13, r14⟩ := hR3
    have s0 := sl_succ hm 0
    have m' := (mxt_w hm).2
    refine Or.inr (Or.inr ⟨?_, ?_, ?_, ?_, fun q hq => ?_⟩)
    · rw [r1, s0.2.2.1, r11, if_pos rfl]
    · show H3 108 (sl (H3 71 56) 0) = H3 71 47 - _
      rw [r1, s0.2.1, s0.2.2.1, r7, r12, if_pos rfl, if_pos rfl, k47]; omega
    · show H3 109 (sl (H3 71 56) 0) = _
      rw [r1, s0.2.1, s0.2.2.1, r8, r14, if_pos rfl, if_pos rfl]
    · show H3 110 (sl (H3 71 56) 0) = H3 71 49
      rw [r1, s0.2.1, r9, if_pos rfl, k71 49 (by decide), g49]
    · show H3 111 (12 * sl (H3 71 56) 0 + q) = H3 107 q
      rw [r1, s0.2.1, r10 _ q m'.1 m'.2 hq, if_pos rfl, kc 107 (by decide), g107]
  · rw [if_neg hg]
    have hv : Inq (hs V 70 2 (w32 (V 70 2 + 1))) := hI.vq (Vq.rf.hs (c := 70) (j := 2) rfl)
    have e71 : hs V 70 2 (w32 (V 70 2 + 1)) 71 = V 71 := hs_ne (by decide)
    have e73 : hs V 70 2 (w32 (V 70 2 + 1)) 73 = V 73 := hs_ne (by decide)
    obtain ⟨hm, a1, a2, c, hc, hc30, -⟩ := hA
    refine c_strokeM hv.m (by rw [e71]; exact hm) (by rw [e71, hc]; omega) (fun _ => ⟨rfl, ?_⟩) (fun q => absurd (by rw [e71] at q; exact q) hg)
    rw [e73]
    exact h.ref (i := 2) (by decide)
end PS
