/-! pairs: end, feed -/
def tpS (a b : Int) : Bool := if a = 3 then true else if a = 72 then true else if a = 2 then decide (b = 1) else if a = 71 then decide (b = 1) else false
theorem tpS_nq (a b : Int) (h : tpS a b = true) : nq a b = true := by
  unfold tpS at h
  by_cases h1 : a = 3
  · subst h1; rfl
  · by_cases h2 : a = 72
    · subst h2; rfl
    · by_cases h3 : a = 2
      · subst h3
        have : b = 1 := by simpa using h
        subst this; rfl
      · by_cases h4 : a = 71
        · subst h4
          have : b = 1 := by simpa using h
          subst this; rfl
        · simp [h1, h2, h3, h4] at h
theorem Inv0.tape {V H : Hp} (h : Inv0 V) (hS : Fx tpS V H) (hT : TapeR H) : Inv0 H := by
  obtain ⟨h1, -, h3, h4, h5, h6, h7, h8, h9, h10⟩ := h
  have hq : Vq V H := fun a b q => hS a b (by
    cases e : tpS a b with
    | false => rfl
    | true => rw [tpS_nq a b e] at q; cases q)
  have c : ∀ a, (a ≠ 3 ∧ a ≠ 72 ∧ a ≠ 2 ∧ a ≠ 71) → H a = V a := fun a ha => hS.cell a (fun b => by unfold tpS; rw [if_neg ha.1, if_neg ha.2.1, if_neg ha.2.2.1, if_neg ha.2.2.2])
  have d : ∀ j, j ≠ 1 → H 71 j = V 71 j := fun j hj => hS 71 j (by show decide (j = 1) = false; exact decide_eq_false hj)
  have ep : H (V 4 0 + 4) = V (V 4 0 + 4) := by rcases h1.pp with e | e <;> rw [e] <;> exact c _ (by decide)
  refine ⟨h1.vq hq, hT, ?_, ?_, ?_, ?_, ?_, ?_, h9.cg (c 91 (by decide)) (c 95 (by decide)) (by rw [c 4 (by decide)]) ep, h10.cg (by rw [c 58 (by decide)]) (by rw [c 58 (by decide)]) (c 64 (by decide)) (c 65 (by decide)) (c 91 (by decide)) (c 92 (by decide)) (c 93 (by decide)) (c 99 (by decide)) (c 102 (by decide)) (c 103 (by decide)) (c 104 (by decide))⟩
  · unfold FltR at h3 ⊢; simp only [c 1 (by decide), d 7 (by decide), d 8 (by decide)]; exact h3
  · unfold RefR at h4 ⊢; simp only [c 70 (by decide), c 73 (by decide)]; exact h4
  · unfold ImgR at h5 ⊢; simp only [c 4 (by decide), c 24 (by decide), c 139 (by decide), d 98 (by decide)]; exact h5
  · have d47 := d 47 (by decide)
    have d48 := d 48 (by decide)
    have d49 := d 49 (by decide)
    have d55 := d 55 (by decide)
    have d56 := d 56 (by decide)
    have e4 := c 4 (by decide)
    have e20 := c 20 (by decide)
    have e21 := c 21 (by decide)
    have e22 := c 22 (by decide)
    have e23 := c 23 (by decide)
    have e91 := c 91 (by decide)
    have e94 := c 94 (by decide)
    have e107 := c 107 (by decide)
    have e108 := c 108 (by decide)
    have e109 := c 109 (by decide)
    have e110 := c 110 (by decide)
    have e111 := c 111 (by decide)
    have g1 : ∀ i, snK H i = snK V i := fun i => by cases i <;> simp only [snK, d47, d56, e108]
    have g2 : ∀ i, snH H i = snH V i := fun i => by cases i <;> simp only [snH, d48, d56, e109]
    have g3 : ∀ i, snD H i = snD V i := fun i => by cases i <;> simp only [snD, d49, d56, e110]
    have g4 : ∀ i k, snS H i k = snS V i k := fun i k => by cases i <;> simp only [snS, d56, e107, e111]
    unfold ActR ActI OkI nS nR nN at h6 ⊢
    simp only [e4, d55, d56, e20, e21, e22, e23, e91, e94, g1, g2, g3, g4]
    exact h6
  · unfold HvOk at h7 ⊢; simp only [c 66 (by decide), c 67 (by decide), c 68 (by decide)]; exact h7
  · have hs : wdL.all (fun q => !tpS q.1 q.2.1) = true := by decide +kernel
    intro q hq
    have := List.all_eq_true.mp hs q hq
    rw [hS q.1 q.2.1 (by simpa using this)]
    exact h8 q hq
section PT
variable {d : Nat} {V : Hp}
theorem ref_view {i : Int} (hi : 0 ≤ i ∧ i < 6) (h : Inv0 V) : Inq (hs V 70 i (w32 (V 70 i + 1))) := h.1.vq (Vq.rf.hs (c := 70) (j := i) rfl)
set_option maxRecDepth 20000 in
theorem p_end (h : Inv0 V) {n : Int} : Pair V (d + 10) EO_end MO_end [va 1, vi n] [va 71, vi n] := by
  have hT := h.2.1
  unfold Pair
  rw [show d + 10 = (d + 9) + 1 from rfl, q_endC h.1.ptr Vw.rf]
  by_cases hg : 0 ≤ n ∧ n ≤ V 2 1
  · rw [if_pos hg]
    have hv : Inq (hs V 2 1 n) := h.1.vq (Vq.rf.hs (c := 2) (j := 1) rfl)
    rw [q_endM hv.ptr Vw.rf]
    have e : hs V 2 1 n 71 1 = V 2 1 := by rw [hs_ne (by decide)]; exact hT.2.1
    rw [e, if_pos hg]
    refine ⟨rfl, h.tape ((Fx.rf.hs (c := 2) (j := 1) rfl).hs (c := 71) (j := 1) rfl) ?_⟩
    have q2 : hs (hs V 2 1 n) 71 1 n 2 1 = n := by rw [hs_ne (by decide)]; exact hs_same
    have q71 : hs (hs V 2 1 n) 71 1 n 71 1 = n := hs_same
    have q3 : hs (hs V 2 1 n) 71 1 n 3 = V 3 := by rw [hs_ne (by decide), hs_ne (by decide)]
    have q72 : hs (hs V 2 1 n) 71 1 n 72 = V 72 := by rw [hs_ne (by decide), hs_ne (by decide)]
    unfold TapeR
    rw [q2, q71, q3, q72]
    exact ⟨⟨hg.1, Int.le_trans hg.2 hT.1.2⟩, rfl, fun k hk => hT.2.2 k (Int.lt_of_lt_of_le hk hg.2)⟩
  · rw [if_neg hg]
    have hv := ref_view (i := 0) (by decide) h
    rw [q_endM hv.ptr Vw.rf]
    have e : hs V 70 0 (w32 (V 70 0 + 1)) 71 1 = V 2 1 := by rw [hs_ne (by decide)]; exact hT.2.1
    have e73 : hs V 70 0 (w32 (V 70 0 + 1)) 73 = V 73 := hs_ne (by decide)
    rw [e, if_neg hg, e73]
    exact ⟨rfl, h.ref (i := 0) (by decide)⟩
set_option maxRecDepth 20000 in
theorem p_feed (h : Inv0 V) {a b c e g : Int} : Pair V (d + 10) EO_feed MO_feed [va 1, vi a, vi b, vi c, vi e, vi g] [va 71, vi a, vi b, vi c, vi e, vi g] := by
  have hT := h.2.1
  obtain ⟨L, hL⟩ := Int.eq_ofNat_of_zero_le hT.1.1
  have hL2 : L ≤ 1600 := by have := hT.1.2; rw [hL] at this; exact Int.ofNat_le.mp this
  refine c_feedC (d := d + 8) h.1.ptr Vw.rf hL hL2 (fun hno => ?_) (fun hy H1 hP => ?_)
  · have hv := ref_view (i := 0) (by decide) h
    have e : hs V 70 0 (w32 (V 70 0 + 1)) 71 1 = L := by rw [hs_ne (by decide), hT.2.1]; exact hL
    have e73 : hs V 70 0 (w32 (V 70 0 + 1)) 73 = V 73 := hs_ne (by decide)
    refine c_feedM hv.ptr Vw.rf e hL2 (fun _ => ⟨rfl, ?_⟩) (fun q => absurd q hno)
    rw [e73]
    exact h.ref (i := 0) (by decide)
  · obtain ⟨r1, r2, r3, r4⟩ := hP
    have hS1 : Fx tpS V H1 := r1.up (fun x y q => by
      unfold sTP at q
      by_cases h1 : x = 3
      · subst h1; rfl
      · by_cases h2 : x = 2
        · subst h2; exact q
        · rw [if_neg h1, if_neg h2] at q; cases q)
    have hv : Inq H1 := h.1.vq (fun x y q => hS1 x y (by
      cases et : tpS x y with
      | false => rfl
      | true => rw [tpS_nq x y et] at q; cases q))
    have eL : H1 71 1 = L := by rw [r1 71 1 rfl, hT.2.1]; exact hL
    refine c_feedM hv.ptr Vw.rf eL hL2 (fun q => absurd hy q) (fun _ H2 hM => ⟨rfl, ?_⟩)
    obtain ⟨m1, m2, m3, m4⟩ := hM
    have hS2 : Fx tpS V H2 := hS1.tr (m1.up (fun x y q => by
      unfold sMT at q
      by_cases h1 : x = 72
      · subst h1; rfl
      · by_cases h2 : x = 71
        · subst h2; exact q
        · rw [if_neg h1, if_neg h2] at q; cases q))
    refine h.tape hS2 ⟨?_, ?_, fun k hk => ?_⟩
    · rw [m1 2 1 rfl, r2]; omega
    · rw [m2, m1 2 1 rfl, r2]
    · rw [m1 2 1 rfl, r2] at hk
      rw [m1 3 k rfl]
      by_cases hkL : k < L
      · rw [r3 k hkL, m3 k hkL, r1 72 k rfl]
        exact hT.2.2 k (by rw [hL]; exact Int.ofNat_lt.mpr hkL)
      · obtain ⟨j, rfl⟩ : ∃ j, k = L + j := ⟨k - L, by omega⟩
        have hj : j < 20 := by omega
        rw [r4 j hj, m4 j hj]
        have := w8_mod (fdB (five a b c e g) j)
        exact ⟨this.2, this.1.symm⟩
end PT
