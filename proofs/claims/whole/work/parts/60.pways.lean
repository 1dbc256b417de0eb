/-! pairs: ways -/
theorem sHV_nq (a b : Int) (h : sHV a b = true) : nq a b = true := by
  unfold sHV at h
  by_cases h1 : a = 67
  · subst h1; rfl
  · by_cases h2 : a = 68
    · subst h2; rfl
    · by_cases h3 : a = 66
      · subst h3
        have : b = 2 := by simpa using h
        subst this; rfl
      · simp [h1, h2, h3] at h
theorem Inv0.ways {V H : Hp} (h : Inv0 V) (hS : Fx sHV V H) (hO : HvOk H) : Inv0 H := by
  obtain ⟨h1, h2, h3, h4, h5, h6, -, h8, h9, h10⟩ := h
  have hq : Vq V H := fun a b q => hS a b (by
    cases e : sHV a b with
    | false => rfl
    | true => rw [sHV_nq a b e] at q; cases q)
  have c : ∀ a, (a ≠ 67 ∧ a ≠ 68 ∧ a ≠ 66) → H a = V a := fun a ha => hS.cell a (fun b => by unfold sHV; rw [if_neg ha.1, if_neg ha.2.1, if_neg ha.2.2])
  have e71 := c 71 (by decide)
  have ep : H (V 4 0 + 4) = V (V 4 0 + 4) := by rcases h1.pp with e | e <;> rw [e] <;> exact c _ (by decide)
  refine ⟨h1.vq hq, ?_, ?_, ?_, ?_, ?_, hO, ?_, h9.cg (c 91 (by decide)) (c 95 (by decide)) (by rw [c 4 (by decide)]) ep, h10.cg (by rw [c 58 (by decide)]) (by rw [c 58 (by decide)]) (c 64 (by decide)) (c 65 (by decide)) (c 91 (by decide)) (c 92 (by decide)) (c 93 (by decide)) (c 99 (by decide)) (c 102 (by decide)) (c 103 (by decide)) (c 104 (by decide))⟩
  · unfold TapeR at h2 ⊢; simp only [c 2 (by decide), c 3 (by decide), c 72 (by decide), e71]; exact h2
  · unfold FltR at h3 ⊢; simp only [c 1 (by decide), e71]; exact h3
  · unfold RefR at h4 ⊢; simp only [c 70 (by decide), c 73 (by decide)]; exact h4
  · unfold ImgR at h5 ⊢; simp only [c 4 (by decide), c 24 (by decide), c 139 (by decide), e71]; exact h5
  · have e4 := c 4 (by decide)
    have e20 := c 20 (by decide)
    have e21 := c 21 (by decide)
    have e22 := c 22 (by decide)
    have e23 := c 23 (by decide)
    have e91 := c 91 (by decide)
    have e94 := c 94 (by decide)
    have e107 := c 107 (by decide)
    have e108 := c 108 (by decide)
    have e109 := c 109 (by decide)
    have e110 := c 110 (by decide)
    have e111 := c 111 (by decide)
    have g1 : ∀ i, snK H i = snK V i := fun i => by cases i <;> simp only [snK, e71, e108]
    have g2 : ∀ i, snH H i = snH V i := fun i => by cases i <;> simp only [snH, e71, e109]
    have g3 : ∀ i, snD H i = snD V i := fun i => by cases i <;> simp only [snD, e71, e110]
    have g4 : ∀ i k, snS H i k = snS V i k := fun i k => by cases i <;> simp only [snS, e71, e107, e111]
    unfold ActR ActI OkI nS nR nN at h6 ⊢
    simp only [e4, e71, e20, e21, e22, e23, e91, e94, g1, g2, g3, g4]
    exact h6
  · have hs : wdL.all (fun q => !sHV q.1 q.2.1) = true := by decide +kernel
    intro q hq
    have := List.all_eq_true.mp hs q hq
    rw [hS q.1 q.2.1 (by simpa using this)]
    exact h8 q hq
theorem p_ways {d : Nat} {V : Hp} (h : Inv0 V) {n : Int} : Pair V (d + 10) EO_ways MO_ways [va 1, vi n] [va 71, vi n] := by
  refine c_waysC (d := d + 7) h.1.ptr Vw.rf h.2.2.2.2.2.2.1 fun H1 hS hO => ?_
  have h1 := h.ways hS hO
  exact c_waysM (d := d + 9) h1.1.ptr Vw.rf fun H2 hH2 => ⟨rfl, h1.vw hH2⟩
