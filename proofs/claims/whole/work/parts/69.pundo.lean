/-! pairs: undo -/
theorem unC_act (a b : Int) (h : unC a b = true) : actS a b = true := by
  unfold unC at h
  by_cases h1 : a = 18
  · subst h1; rfl
  · by_cases h2 : a = 19
    · subst h2; rfl
    · by_cases h3 : a = 4
      · subst h3
        simp at h
        rcases h with ((rfl | rfl) | rfl) | rfl <;> rfl
      · simp [h1, h2, h3] at h
theorem unM_act (a b : Int) (h : unM a b = true) : actS a b = true := by
  unfold unM at h
  by_cases h1 : a = 107
  · subst h1; rfl
  · by_cases h3 : a = 71
    · subst h3
      simp at h
      rcases h with (((rfl | rfl) | rfl) | rfl) | rfl <;> rfl
    · simp [h1, h3] at h
section PU
variable {d : Nat} {V : Hp}
/-- the ring with its newest act away -/
theorem ActR.back {V H : Hp} (h : ActR V) (hn : nS V ≤ 12) (h0 : V 71 55 ≠ 0) (e56 : H 71 56 = prv (V 71 56)) (e55 : H 71 55 = V 71 55 - 1) (e10 : H 4 10 = prv (V 71 56)) (e11 : H 4 11 = V 71 55 - 1) (eK : H 71 47 = snK V 1) (eH : H 71 48 = snH V 1) (eD : H 71 49 = snD V 1) (eS : ∀ k : Nat, k < 12 → H 107 k = snS V 1 k) (c91 : H 91 = V 91) (c94 : H 94 = V 94) (c108 : H 108 = V 108) (c109 : H 109 = V 109) (c110 : H 110 = V 110) (c111 : H 111 = V 111) (c20 : H 20 = V 20) (c21 : H 21 = V 21) (c22 : H 22 = V 22) (c23 : H 23 = V 23) : ActR H := by
  obtain ⟨hm, a1, a2, c, hc, hc30, hact⟩ := h
  have c0 : c ≠ 0 := fun z => h0 (by rw [hc, z]; rfl)
  obtain ⟨w1, w2, w3⟩ := prv_w hm
  have gK : ∀ i, snK H i = snK V (i + 1) := fun i => by
    cases i with
    | zero => exact eK
    | succ i => show H 108 (sl (H 71 56) i) = V 108 (sl (V 71 56) (i + 1)); rw [c108, e56, (prv_sl hm i).1]
  have gH : ∀ i, snH H i = snH V (i + 1) := fun i => by
    cases i with
    | zero => exact eH
    | succ i => show H 109 (sl (H 71 56) i) = V 109 (sl (V 71 56) (i + 1)); rw [c109, e56, (prv_sl hm i).1]
  have gD : ∀ i, snD H i = snD V (i + 1) := fun i => by
    cases i with
    | zero => exact eD
    | succ i => show H 110 (sl (H 71 56) i) = V 110 (sl (V 71 56) (i + 1)); rw [c110, e56, (prv_sl hm i).1]
  have gS : ∀ i, ∀ k : Nat, k < 12 → snS H i k = snS V (i + 1) k := fun i k hk => by
    cases i with
    | zero => exact eS k hk
    | succ i => show H 111 (12 * sl (H 71 56) i + k) = V 111 (12 * sl (V 71 56) (i + 1) + k); rw [c111, e56, (prv_sl hm i).1]
  have eN : nS H = nS V := by unfold nS nN; rw [c91]
  have eR : nR H = nR V := by unfold nR nN; rw [c91]
  refine ⟨by rw [e56]; exact ⟨w2, w3⟩, by rw [e10, e56], by rw [e11, e55], c - 1, by rw [e55, hc]; clear w1; omega, by clear w1; omega, fun i hi => ?_⟩
  obtain ⟨h1, h2⟩ := hact (i + 1) (by clear w1; omega)
  constructor
  · unfold ActI at h1 ⊢
    rw [e56, (prv_sl hm i).2.1, c20, c21, c22, c23, gK, gK, gH, gH, gD, gD, eN, c94]
    rcases h1 with ⟨k0, k1, k5, k6, k7⟩ | ⟨k0, ⟨s, r, b1, b2, b3, b4, b5, b6⟩, k5, k6, k7⟩ | ⟨k0, k5, k6, k7, k8⟩
    · exact Or.inl ⟨k0, k1, k5, k6, fun k hk => by rw [gS _ k hk, gS _ k hk]; exact k7 k hk⟩
    · exact Or.inr (Or.inl ⟨k0, ⟨s, r, b1, b2, b3, b4, b5, fun k hk => by rw [gS _ k hk, gS _ k hk, gS _ r (Nat.lt_of_lt_of_le b4 hn), gS _ s (Nat.lt_of_lt_of_le b3 hn)]; exact b6 k hk⟩, k5, k6, k7⟩)
    · exact Or.inr (Or.inr ⟨k0, k5, k6, k7, fun k hk => by rw [gS _ k hk, gS _ k hk]; exact k8 k hk⟩)
  · unfold OkI at h2 ⊢
    rw [gK, gH, gD, eN, eR]
    exact ⟨h2.1, h2.2.1, h2.2.2.1, fun k hk => by rw [gS _ k (Nat.lt_of_lt_of_le hk hn)]; exact h2.2.2.2.1 k hk, fun k h1 hk => by rw [gS _ k hk]; exact h2.2.2.2.2 k h1 hk⟩
set_option maxRecDepth 20000 in
theorem p_undo (h : Inv0 V) : Pair V (d + 10) EO_undo MO_undo [va 1] [va 71] := by
  have hI := h.1
  have hA := h.2.2.2.2.2.1
  obtain ⟨hm, a1, a2, c, hc, hc30, hact⟩ := id hA
  refine c_undoC (d := d + 5) h (fun hg => ?_) (fun hg H1 h1 d11 d10 d3' d4 d18 d19 => ?_)
  · have hv : Inq (hs V 70 3 (w32 (V 70 3 + 1))) := hI.vq (Vq.rf.hs (c := 70) (j := 3) rfl)
    have e71 : hs V 70 3 (w32 (V 70 3 + 1)) 71 = V 71 := hs_ne (by decide)
    have e73 : hs V 70 3 (w32 (V 70 3 + 1)) 73 = V 73 := hs_ne (by decide)
    refine c_undoM hv.m (by rw [e71]; exact hm) (by rw [e71, hc]; omega) (fun _ => ⟨rfl, ?_⟩) (fun q => absurd hg (by rw [e71] at q; exact q))
    rw [e73]
    exact h.ref (i := 3) (by decide)
  · have hS1 : Fx actS V H1 := h1.up unC_act
    have c71 : H1 71 = V 71 := h1.cell 71 (fun _ => rfl)
    have c91 : H1 91 = V 91 := h1.cell 91 (fun _ => rfl)
    have c107 : H1 107 = V 107 := h1.cell 107 (fun _ => rfl)
    have c108 : H1 108 = V 108 := h1.cell 108 (fun _ => rfl)
    have c109 : H1 109 = V 109 := h1.cell 109 (fun _ => rfl)
    have c110 : H1 110 = V 110 := h1.cell 110 (fun _ => rfl)
    have c111 : H1 111 = V 111 := h1.cell 111 (fun _ => rfl)
    have hM1 : Inm H1 := ⟨hS1.actP hI.ptr, hS1.actB hI.boat, hI.crew.cg c91 c107 (by rw [c71]) (by rw [c71]) (by rw [c71]) (by rw [c71]) (hS1.cell 96 (fun _ => rfl)) (hS1.cell 97 (fun _ => rfl))⟩
    have gK : snK H1 1 = snK V 1 := by show H1 108 (sl (H1 71 56) 0) = V 108 (sl (V 71 56) 0); rw [c108, c71]
    have gH : snH H1 1 = snH V 1 := by show H1 109 (sl (H1 71 56) 0) = V 109 (sl (V 71 56) 0); rw [c109, c71]
    have gD : snD H1 1 = snD V 1 := by show H1 110 (sl (H1 71 56) 0) = V 110 (sl (V 71 56) 0); rw [c110, c71]
    have gS : ∀ k : Nat, snS H1 1 k = snS V 1 k := fun k => by show H1 111 (12 * sl (H1 71 56) 0 + k) = V 111 (12 * sl (V 71 56) 0 + k); rw [c111, c71]
    refine c_undoM hM1 (by rw [c71]; exact hm) (by rw [c71, hc]; omega) (fun q => absurd (by rw [c71] at q; exact q) hg) (fun _ H2 h2 f55 f56 f47 f48 f49 f107 => ⟨rfl, ?_⟩)
    rw [c71] at f55 f56
    rw [gK] at f47
    rw [gH] at f48
    rw [gD] at f49
    have f107' : ∀ k : Nat, k < 12 → H2 107 k = snS V 1 k := fun k hk => (f107 k hk).trans (gS k)
    have hS2 : Fx actS V H2 := hS1.tr (h2.up unM_act)
    have k4 : H2 4 = H1 4 := h2.cell 4 (fun _ => rfl)
    have c0 : 0 < c := Nat.pos_of_ne_zero (fun z => hg (by rw [hc, z]; rfl))
    obtain ⟨o1, o2, ⟨D, o3, o3'⟩, o4, o5⟩ := (hact 0 c0).2
    have off1 : ∀ k : Nat, nS V ≤ k → k < 12 → snS V 1 k = -1 ∨ (nS V = 0 ∧ snS V 1 k = 0 ∧ V 96 12 = 0 ∧ V 97 12 = 0) := by
      intro k z1 z2
      rcases o5 k z1 z2 with z | z
      · exact Or.inl z
      · have ai := (hact 0 c0).1
        unfold ActI at ai
        rcases ai with ⟨-, ⟨s, -, q2, -⟩, -⟩ | ⟨-, ⟨s, r, -, -, q2, -⟩, -⟩ | ⟨-, -, -, -, q8⟩
        · rw [z] at q2; exact absurd q2 (Nat.not_lt_zero _)
        · rw [z] at q2; exact absurd q2 (Nat.not_lt_zero _)
        · have e : snS V 1 k = V 107 k := q8 k z2
          rw [e]
          exact hI.crew.off k z1 z2
    have eS : nS H2 = nS V := by unfold nS nN; rw [h2.cell 91 (fun _ => rfl), c91]
    have eR : nR H2 = nR V := by unfold nR nN; rw [h2.cell 91 (fun _ => rfl), c91]
    have f57 : H2 71 57 = V 71 57 := (h2 71 57 rfl).trans (by rw [c71])
    have f49' : H2 71 49 = D := f49.trans o3
    have hD : sdV H2 = D := by unfold sdV; rw [f49']; rfl
    have n0 : H2 4 0 = V 4 0 := by rw [k4]; exact h1 4 0 rfl
    refine h.act hS2 ⟨hS2.actP hI.ptr, hS2.actB hI.boat, ⟨by rw [f47]; exact o1, by rw [eS, hD]; exact ⟨f49', o3'⟩, fun k hk => by rw [eS] at hk; rw [f107' k (Nat.lt_of_lt_of_le hk hI.boat.s.2), eR]; exact o4 k hk, fun k hk1 hk => by rw [eS] at hk1; rw [f107' k hk, eS, hS2.cell 96 (fun _ => rfl), hS2.cell 97 (fun _ => rfl)]; exact off1 k hk1 hk, by rw [f57]; exact hI.crew.seed, by rw [f48]; exact o2⟩, ?_, ?_⟩ ?_
    · rw [n0]; exact hS2.actL hI.pp hI.plan
    · refine ⟨by rw [n0]; exact hI.pp, ?_, ?_, ?_, ?_, ?_, ?_⟩
      · rw [n0, h2.cell 1 (fun _ => rfl), h1.cell 1 (fun _ => rfl)]; exact hI.cc.2.1
      · rw [k4, d3', f47]
      · rw [k4, d4, f48]
      · rw [k4, h1 4 5 rfl, f57]; exact hI.cc.drawn
      · intro k hk
        rw [eS] at hk
        rw [h2.cell 18 (fun _ => rfl), d18 k hk, f107' k (Nat.lt_of_lt_of_le hk hI.boat.s.2)]
      · intro k hk
        rw [eS] at hk
        rw [h2.cell 19 (fun _ => rfl), d19 k hk]
        unfold sdV
        rw [f49]
    · refine hA.back hI.boat.s.2 hg f56 f55 (by rw [k4]; exact d10) (by rw [k4]; exact d11) f47 f48 f49 f107' ?_ ?_ ?_ ?_ ?_ ?_ ?_ ?_ ?_ ?_
      · exact (h2.cell 91 (fun _ => rfl)).trans c91
      · exact (h2.cell 94 (fun _ => rfl)).trans (h1.cell 94 (fun _ => rfl))
      · exact (h2.cell 108 (fun _ => rfl)).trans c108
      · exact (h2.cell 109 (fun _ => rfl)).trans c109
      · exact (h2.cell 110 (fun _ => rfl)).trans c110
      · exact (h2.cell 111 (fun _ => rfl)).trans c111
      · exact (h2.cell 20 (fun _ => rfl)).trans (h1.cell 20 (fun _ => rfl))
      · exact (h2.cell 21 (fun _ => rfl)).trans (h1.cell 21 (fun _ => rfl))
      · exact (h2.cell 22 (fun _ => rfl)).trans (h1.cell 22 (fun _ => rfl))
      · exact (h2.cell 23 (fun _ => rfl)).trans (h1.cell 23 (fun _ => rfl))
end PU
