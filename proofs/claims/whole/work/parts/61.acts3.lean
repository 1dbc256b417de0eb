/-! an act's end, for all acts -/
def clS (a b : Int) : Bool := if a = 18 then true else if a = 19 then true else if a = 4 then (decide (b = 3) || decide (b = 4) || decide (b = 5)) else false
def fiS (a b : Int) : Bool := if a = 107 then true else if a = 71 then (decide (b = 47) || decide (b = 48) || decide (b = 49) || decide (b = 57)) else false
theorem clS_act (a b : Int) (h : clS a b = true) : actS a b = true := by
  unfold clS at h
  by_cases h1 : a = 18
  · subst h1; rfl
  · by_cases h2 : a = 19
    · subst h2; rfl
    · by_cases h3 : a = 4
      · subst h3
        simp at h
        rcases h with (rfl | rfl) | rfl <;> rfl
      · simp [h1, h2, h3] at h
theorem fiS_act (a b : Int) (h : fiS a b = true) : actS a b = true := by
  unfold fiS at h
  by_cases h1 : a = 107
  · subst h1; rfl
  · by_cases h3 : a = 71
    · subst h3
      simp at h
      rcases h with ((rfl | rfl) | rfl) | rfl <;> rfl
    · simp [h1, h3] at h
/-- what one act back is, told by the act -/
def AStep (V H : Hp) (k a b : Int) : Prop :=
  (k = 0 ∧ (∃ s : Nat, a = s ∧ s < nS V ∧ V 94 (12 + s) = 0 ∧ V 71 49 = (((H 71 49).toNat ^^^ 1 * 2 ^ s : Nat) : Int)) ∧ V 71 47 = H 71 47 ∧ V 71 48 = H 71 48 ∧ ∀ q : Nat, q < 12 → V 107 q = H 107 q) ∨
  (k = 1 ∧ (∃ s r : Nat, a = s ∧ b = r ∧ s < nS V ∧ r < nS V ∧ s ≠ r ∧ ∀ q : Nat, q < 12 → V 107 q = if q = s then H 107 r else if q = r then H 107 s else H 107 q) ∧ V 71 47 = H 71 47 ∧ V 71 48 = H 71 48 ∧ V 71 49 = H 71 49) ∨
  (k = 2 ∧ V 71 47 = H 71 47 - a ∧ V 71 49 = H 71 49 ∧ ∀ q : Nat, q < 12 → V 107 q = H 107 q)
section AD
variable {V H1 H2 H3 : Hp} {k a b : Int}
theorem act_mid (h : Inv0 V) (h1 : Fx clS (ntH V k a b) H1) : Fx actS V H1 ∧ Inm H1 ∧ H1 71 = V 71 ∧ H1 107 = V 107 ∧ H1 91 = V 91 ∧ H1 94 = V 94 ∧ (∀ c : Int, clS c 0 = false → c ≠ 4 → c ≠ 20 → c ≠ 21 → c ≠ 22 → c ≠ 23 → H1 c = V c) := by
  have hS : Fx actS V H1 := (nt_act (k := k) (a := a) (b := b)).tr (h1.up clS_act)
  have g : ∀ c : Int, clS c 0 = false → c ≠ 4 → c ≠ 20 → c ≠ 21 → c ≠ 22 → c ≠ 23 → H1 c = V c := by
    intro c h0 h4 h20 h21 h22 h23
    refine (h1.cell c (fun j => ?_)).trans (nt_c ⟨h20, h21, h22, h23, h4⟩)
    unfold clS at h0 ⊢
    rw [if_neg h4] at h0 ⊢
    exact h0
  have e71 := g 71 rfl (by decide) (by decide) (by decide) (by decide) (by decide)
  have e107 := g 107 rfl (by decide) (by decide) (by decide) (by decide) (by decide)
  have e91 := g 91 rfl (by decide) (by decide) (by decide) (by decide) (by decide)
  have e94 := g 94 rfl (by decide) (by decide) (by decide) (by decide) (by decide)
  exact ⟨hS, ⟨hS.actP h.1.ptr, hS.actB h.1.boat, h.1.crew.cg e91 e107 (by rw [e71]) (by rw [e71]) (by rw [e71]) (by rw [e71]) (hS.cell 96 (fun _ => rfl)) (hS.cell 97 (fun _ => rfl))⟩, e71, e107, e91, e94, g⟩
theorem act_done (h : Inv0 V) (h1 : Fx clS (ntH V k a b) H1) (hK : KeepR H1 H2) (h3 : Fx fiS H2 H3)
    (m1 : 0 ≤ H3 71 47 ∧ H3 71 47 ≤ 9999) (m2 : ∃ D : Nat, H3 71 49 = D ∧ D < 2 ^ nS V) (m3 : ∀ q : Nat, q < nS V → -1 ≤ H3 107 q ∧ H3 107 q < nR V) (m4 : ∀ q : Nat, nS V ≤ q → q < 12 → H3 107 q = -1 ∨ (nS V = 0 ∧ H3 107 q = 0 ∧ V 96 12 = 0 ∧ V 97 12 = 0)) (m5 : 0 ≤ H3 71 57 ∧ H3 71 57 < 2147483648) (m6 : -9223372036854775808 ≤ H3 71 48 ∧ H3 71 48 < 9223372036854775808)
    (c3 : H1 4 3 = H3 71 47) (c4 : H1 4 4 = H3 71 48) (c5 : H1 4 5 = H3 71 57) (c18 : ∀ q : Nat, q < nS V → H1 18 q = H3 107 q) (c19 : ∀ q : Nat, q < nS V → H1 19 q = if (H3 71 49).toNat.testBit q then 1 else 0)
    (hA : AStep V H3 k a b) : Inv0 H3 := by
  obtain ⟨hS1, hM1, e71, e107, e91, e94, g⟩ := act_mid h h1
  have hAc := h.2.2.2.2.2.1
  have hm := hAc.1
  have hS2 : Fx actS V H2 := hS1.tr (hK.1.up sKP_act)
  have hS3 : Fx actS V H3 := hS2.tr (h3.up fiS_act)
  have hI := h.1
  have k91 : H3 91 = V 91 := hS3.cell 91 (fun _ => rfl)
  have k94 : H3 94 = V 94 := hS3.cell 94 (fun _ => rfl)
  have k4 : H3 4 = H1 4 := (h3.cell 4 (fun _ => rfl)).trans (hK.1.cell 4 (fun _ => rfl))
  have k18 : H3 18 = H1 18 := (h3.cell 18 (fun _ => rfl)).trans (hK.1.cell 18 (fun _ => rfl))
  have k19 : H3 19 = H1 19 := (h3.cell 19 (fun _ => rfl)).trans (hK.1.cell 19 (fun _ => rfl))
  have eS : nS H3 = nS V := by unfold nS nN; rw [k91]
  have eR : nR H3 = nR V := by unfold nR nN; rw [k91]
  have n4 : ∀ j, (j ≠ 10 ∧ j ≠ 11) → clS 4 j = false → H1 4 j = V 4 j := fun j hj hc => (h1 4 j hc).trans (nt_4 hj)
  have hq : Inq H3 := by
    refine ⟨hS3.actP hI.ptr, hS3.actB hI.boat, ⟨m1, ?_, ?_, ?_, m5, m6⟩, ?_, ?_⟩
    · obtain ⟨D, d1, d2⟩ := m2
      have : sdV H3 = D := by unfold sdV; rw [d1]; rfl
      rw [eS, this]; exact ⟨d1, d2⟩
    · rw [eR, eS]; exact m3
    · rw [eS, hS3.cell 96 (fun _ => rfl), hS3.cell 97 (fun _ => rfl)]; exact m4
    · rw [k4, n4 0 (by decide) rfl]; exact hS3.actL hI.pp hI.plan
    · refine ⟨?_, ?_, ?_, ?_, ?_, ?_, ?_⟩
      · rw [k4, n4 0 (by decide) rfl]; exact hI.pp
      · rw [k4, n4 0 (by decide) rfl, hS3 1 2 rfl]; exact hI.cc.2.1
      · rw [k4]; exact c3
      · rw [k4]; exact c4
      · rw [k4]; exact c5
      · rw [k18, eS]; exact c18
      · rw [k19, eS]; exact c19
  have hR2 : RingR V H2 k a b := by
    refine ring_of hAc hI.cc.heading (h1.up clS_act) ?_ ?_ ?_ ?_ ?_ ?_ (fun j _ _ => by rw [e71]) e107 (g 108 rfl (by decide) (by decide) (by decide) (by decide) (by decide)) (g 109 rfl (by decide) (by decide) (by decide) (by decide) (by decide)) (g 110 rfl (by decide) (by decide) (by decide) (by decide) (by decide)) (g 111 rfl (by decide) (by decide) (by decide) (by decide) (by decide)) hK
    · rw [h1 4 10 rfl]; unfold ntH; rw [hs_app, if_neg (by decide)]; exact hs_same
    · rw [h1 4 11 rfl]; unfold ntH; exact hs_same
    · exact h1.cell 20 (fun _ => rfl)
    · exact h1.cell 21 (fun _ => rfl)
    · exact h1.cell 22 (fun _ => rfl)
    · exact h1.cell 23 (fun _ => rfl)
  have hR3 : RingR V H3 k a b := by
    obtain ⟨r1, r2, r3, r4, r5, r6, r7, r8, r9, r10, r11, r12, r13, r14⟩ := hR2
    unfold RingR
    rw [h3 71 56 rfl, h3 71 55 rfl, h3.cell 4 (fun _ => rfl), h3.cell 91 (fun _ => rfl), h3.cell 94 (fun _ => rfl), h3.cell 108 (fun _ => rfl), h3.cell 109 (fun _ => rfl), h3.cell 110 (fun _ => rfl), h3.cell 111 (fun _ => rfl), h3.cell 20 (fun _ => rfl), h3.cell 21 (fun _ => rfl), h3.cell 22 (fun _ => rfl), h3.cell 23 (fun _ => rfl)]
    exact ⟨r1, r2, r3, r4, r5, r6, r7, r8, r9, r10, r11, r12, r13, r14⟩
  refine h.act hS3 hq (ActR.push hAc hI.boat.s.2 hI.crew hR3 ?_)
  obtain ⟨r1, r2, r3, r4, r5, r6, r7, r8, r9, r10, r11, r12, r13, r14⟩ := hR3
  have s0 := sl_succ hm 0
  have m' := (mxt_w hm).2
  have w20 : H3 20 (sl (H3 71 56 - 1) 0) = k := by rw [r1, s0.2.2.1, r11, if_pos rfl]
  have w21 : H3 21 (sl (H3 71 56 - 1) 0) = a := by rw [r1, s0.2.2.1, r12, if_pos rfl]
  have w22 : H3 22 (sl (H3 71 56 - 1) 0) = b := by rw [r1, s0.2.2.1, r13, if_pos rfl]
  have w23 : H3 23 (sl (H3 71 56 - 1) 0) = V 71 48 := by rw [r1, s0.2.2.1, r14, if_pos rfl]
  have w1 : snK H3 (0 + 1) = V 71 47 := by
    show H3 108 (sl (H3 71 56) 0) = _
    rw [r1, s0.2.1, r7, if_pos rfl]
  have w2 : snH H3 (0 + 1) = V 71 48 := by
    show H3 109 (sl (H3 71 56) 0) = _
    rw [r1, s0.2.1, r8, if_pos rfl]
  have w3 : snD H3 (0 + 1) = V 71 49 := by
    show H3 110 (sl (H3 71 56) 0) = _
    rw [r1, s0.2.1, r9, if_pos rfl]
  have w4 : ∀ q : Nat, q < 12 → snS H3 (0 + 1) q = V 107 q := fun q hq => by
    show H3 111 (12 * sl (H3 71 56) 0 + q) = _
    rw [r1, s0.2.1, r10 _ q m'.1 m'.2 hq, if_pos rfl]
  unfold ActI
  rw [w20, w21, w22, w23, w1, w2, w3, eS, k94]
  rcases hA with ⟨a1, a2, a3, a4, a5⟩ | ⟨a1, ⟨s, r, b1, b2, b3, b4, b5, b6⟩, a3, a4, a5⟩ | ⟨a1, a2, a3, a4⟩
  · exact Or.inl ⟨a1, a2, a3, a4, fun q hq => by rw [w4 q hq]; exact a5 q hq⟩
  · exact Or.inr (Or.inl ⟨a1, ⟨s, r, b1, b2, b3, b4, b5, fun q hq => by rw [w4 q hq]; exact b6 q hq⟩, a3, a4, a5⟩)
  · exact Or.inr (Or.inr ⟨a1, a2, rfl, a3, fun q hq => by rw [w4 q hq]; exact a4 q hq⟩)
end AD
