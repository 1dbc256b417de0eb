/-! pairs: seed, ways -/
section PSD
variable {d : Nat} {V : Hp}
set_option maxRecDepth 20000 in
theorem p_seed (h : Inv0 V) {n : Int} (hn : n < 2147483648) : Pair V (d + 10) EO_seed MO_seed [va 1, vi n] [va 71, vi n] := by
  unfold Pair
  rw [show d + 10 = (d + 9) + 1 from rfl, q_seedC h.1.ptr Vw.rf]
  by_cases hg : 0 ≤ n
  · rw [if_pos hg]
    have hS1 : Fx actS V (hs V 4 5 n) := Fx.rf.hs (c := 4) (j := 5) rfl
    rw [q_seedM (hS1.actP h.1.ptr) Vw.rf, if_pos hg]
    have hS : Fx actS V (hs (hs V 4 5 n) 71 57 n) := hS1.hs (c := 71) (j := 57) rfl
    have k71 : ∀ j, j ≠ 57 → hs (hs V 4 5 n) 71 57 n 71 j = V 71 j := fun j hj => by rw [hs_app, if_neg (fun z => hj z.2), hs_ne (by decide)]
    have k57 : hs (hs V 4 5 n) 71 57 n 71 57 = n := hs_same
    have k4 : ∀ j, j ≠ 5 → hs (hs V 4 5 n) 71 57 n 4 j = V 4 j := fun j hj => by rw [hs_ne (by decide), hs_app, if_neg (fun z => hj z.2)]
    have k45 : hs (hs V 4 5 n) 71 57 n 4 5 = n := by rw [hs_ne (by decide)]; exact hs_same
    have kc : ∀ c : Int, c ≠ 4 ∧ c ≠ 71 → hs (hs V 4 5 n) 71 57 n c = V c := fun c hc => by rw [hs_ne hc.2, hs_ne hc.1]
    generalize hs (hs V 4 5 n) 71 57 n = H at *
    have hcm := h.1.crew
    have hcc := h.1.cc
    have eS : nS H = nS V := by unfold nS nN; rw [kc 91 (by decide)]
    have eR : nR H = nR V := by unfold nR nN; rw [kc 91 (by decide)]
    have eD : sdV H = sdV V := by unfold sdV; rw [k71 49 (by decide)]
    refine ⟨rfl, h.act hS ⟨hS.actP h.1.ptr, hS.actB h.1.boat, ⟨?_, ?_, ?_, ?_, ?_, ?_⟩, ?_, ?_⟩ ?_⟩
    · rw [k71 47 (by decide)]; exact hcm.1
    · rw [k71 49 (by decide), eS, eD]; exact hcm.2.1
    · rw [kc 107 (by decide), eR, eS]; exact hcm.2.2.1
    · rw [kc 107 (by decide), eS, kc 96 (by decide), kc 97 (by decide)]; exact hcm.2.2.2.1
    · rw [k57]; exact ⟨hg, hn⟩
    · rw [k71 48 (by decide)]; exact hcm.2.2.2.2.2
    · rw [k4 0 (by decide)]; exact hS.actL h.1.pp h.1.plan
    · unfold CrewC
      rw [eS, eD, k4 0 (by decide), k4 3 (by decide), k4 4 (by decide), k45, k57, kc 1 (by decide), k71 47 (by decide), k71 48 (by decide), kc 18 (by decide), kc 107 (by decide), kc 19 (by decide)]
      exact ⟨hcc.1, hcc.2.1, hcc.2.2.1, hcc.2.2.2.1, rfl, hcc.2.2.2.2.2.1, hcc.2.2.2.2.2.2⟩
    · have h6 := h.2.2.2.2.2.1
      have d47 := k71 47 (by decide)
      have d48 := k71 48 (by decide)
      have d49 := k71 49 (by decide)
      have d55 := k71 55 (by decide)
      have d56 := k71 56 (by decide)
      have e20 := kc 20 (by decide)
      have e21 := kc 21 (by decide)
      have e22 := kc 22 (by decide)
      have e23 := kc 23 (by decide)
      have e91 := kc 91 (by decide)
      have e94 := kc 94 (by decide)
      have e107 := kc 107 (by decide)
      have e108 := kc 108 (by decide)
      have e109 := kc 109 (by decide)
      have e110 := kc 110 (by decide)
      have e111 := kc 111 (by decide)
      have e10 := k4 10 (by decide)
      have e11 := k4 11 (by decide)
      have g1 : ∀ i, snK H i = snK V i := fun i => by cases i <;> simp only [snK, d47, d56, e108]
      have g2 : ∀ i, snH H i = snH V i := fun i => by cases i <;> simp only [snH, d48, d56, e109]
      have g3 : ∀ i, snD H i = snD V i := fun i => by cases i <;> simp only [snD, d49, d56, e110]
      have g4 : ∀ i k, snS H i k = snS V i k := fun i k => by cases i <;> simp only [snS, d56, e107, e111]
      unfold ActR ActI OkI nS nR nN at h6 ⊢
      simp only [e10, e11, d55, d56, e20, e21, e22, e23, e91, e94, g1, g2, g3, g4]
      exact h6
  · rw [if_neg hg]
    have hv := ref_view (i := 4) (by decide) h
    rw [q_seedM hv.ptr Vw.rf, if_neg hg]
    have e73 : hs V 70 4 (w32 (V 70 4 + 1)) 73 = V 73 := hs_ne (by decide)
    rw [e73]
    exact ⟨rfl, h.ref (i := 4) (by decide)⟩
end PSD
