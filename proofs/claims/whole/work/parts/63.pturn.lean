/-! pairs: turn, swap -/
theorem hs_at {H : Hp} {c j v x : Int} : hs H c j v c x = if x = j then v else H c x := by
  rw [hs_app]
  by_cases h : x = j
  · rw [if_pos ⟨rfl, h⟩, if_pos h]
  · rw [if_neg (fun z => h z.2), if_neg h]
section PTU
variable {d : Nat} {V : Hp}
set_option maxRecDepth 20000 in
theorem p_turn (h : Inv0 V) {n : Int} : Pair V (d + 10) EO_turn MO_turn [va 1, vi n] [va 71, vi n] := by
  have hI := h.1
  have hA := h.2.2.2.2.2.1
  unfold Pair
  rw [show d + 10 = (d + 6) + 4 from rfl, q_turnC hI hA]
  obtain ⟨hm, a1, a2, c, hc, hc30, -⟩ := id hA
  by_cases hg : tnOk V n
  · rw [if_pos hg]
    have h1 : Fx clS (ntH V 0 n (-1)) (hs (ntH V 0 n (-1)) 19 n (1 - V 19 n)) := Fx.rf.hs (c := 19) rfl
    have e19 : ∀ q : Int, hs (ntH V 0 n (-1)) 19 n (1 - V 19 n) 19 q = if q = n then 1 - V 19 n else V 19 q := fun q => by rw [hs_at, nt_c (by decide)]
    have e18 : hs (ntH V 0 n (-1)) 19 n (1 - V 19 n) 18 = V 18 := by rw [hs_ne (by decide), nt_c (by decide)]
    have e4 : ∀ j, (j ≠ 10 ∧ j ≠ 11) → hs (ntH V 0 n (-1)) 19 n (1 - V 19 n) 4 j = V 4 j := fun j hj => by rw [hs_ne (by decide), nt_4 hj]
    generalize hs (ntH V 0 n (-1)) 19 n (1 - V 19 n) = H1 at *
    obtain ⟨hS1, hM1, e71, e107, e91, e94, g⟩ := act_mid h h1
    have eS : nS H1 = nS V := by unfold nS nN; rw [e91]
    have eD : sdV H1 = sdV V := by unfold sdV; rw [e71]
    have eg : tnOk H1 n = tnOk V n := by unfold tnOk; rw [eS, e94]
    refine c_turnM (d := d + 7) hM1 (by rw [e71]; exact hm) (by rw [e71, hc]; omega) (fun q => absurd (by rw [eg]; exact hg) q) (fun _ k hk H2 hK => ⟨rfl, ?_⟩)
    subst hk
    rw [eD]
    have hk : k < nS V := by have := hg.1.2; omega
    have hcm := hI.crew
    have k71 : ∀ j, 47 ≤ j → j ≤ 57 → j ≠ 55 → j ≠ 56 → j ≠ 49 → hs H2 71 49 ((sdV V ^^^ 1 * 2 ^ k : Nat) : Int) 71 j = V 71 j := fun j j1 j2 j3 j4 j5 => by
      rw [hs_at, if_neg j5, hK.1 71 j (by show (decide (j = 55) || decide (j = 56)) = false; simp [j3, j4]), e71]
    have k49 : hs H2 71 49 ((sdV V ^^^ 1 * 2 ^ k : Nat) : Int) 71 49 = ((sdV V ^^^ 1 * 2 ^ k : Nat) : Int) := hs_same
    have k107 : hs H2 71 49 ((sdV V ^^^ 1 * 2 ^ k : Nat) : Int) 107 = V 107 := by rw [hs_ne (by decide), hK.1.cell 107 (fun _ => rfl), e107]
    have hp : (1 : Nat) * 2 ^ k < 2 ^ nS V := by rw [Nat.one_mul]; exact Nat.pow_lt_pow_right (by decide) hk
    have m47 := k71 47 (by decide) (by decide) (by decide) (by decide) (by decide)
    have m48 := k71 48 (by decide) (by decide) (by decide) (by decide) (by decide)
    have m57 := k71 57 (by decide) (by decide) (by decide) (by decide) (by decide)
    refine act_done h h1 hK (Fx.rf.hs (c := 71) (j := 49) rfl) ?_ ⟨_, k49, nlt_xor hcm.sides.2 hp⟩ ?_ ?_ ?_ ?_ ?_ ?_ ?_ ?_ ?_ ?_
    · rw [m47]; exact hcm.1
    · rw [k107]; exact hcm.sits
    · rw [k107]; exact hcm.off
    · rw [m57]; exact hcm.seed
    · rw [m48]; exact hcm.2.2.2.2.2
    · rw [m47, e4 3 (by decide)]; exact hI.cc.stroke
    · rw [m48, e4 4 (by decide)]; exact hI.cc.heading
    · rw [m57, e4 5 (by decide)]; exact hI.cc.drawn
    · rw [k107, e18]; exact hI.cc.sits
    · intro q hq
      rw [k49, Int.toNat_natCast, Nat.testBit_xor, Nat.one_mul, Nat.testBit_two_pow, e19, hI.cc.right q hq, hI.cc.right k hk]
      by_cases hqk : q = k
      · subst hqk
        rw [if_pos rfl, decide_eq_true rfl]
        cases (sdV V).testBit q <;> rfl
      · rw [if_neg (fun z => hqk (Int.ofNat_inj.mp z)), decide_eq_false (fun z => hqk z.symm), Bool.xor_false]
    · refine Or.inl ⟨rfl, ⟨k, rfl, hk, hg.2, ?_⟩, m47.symm, m48.symm, fun q _ => by rw [k107]⟩
      rw [k49, Int.toNat_natCast, Nat.xor_assoc, Nat.xor_self, Nat.xor_zero]
      exact hcm.sides.1
  · rw [if_neg hg]
    have hv : Inq (hs V 70 2 (w32 (V 70 2 + 1))) := hI.vq (Vq.rf.hs (c := 70) (j := 2) rfl)
    have e71 : hs V 70 2 (w32 (V 70 2 + 1)) 71 = V 71 := hs_ne (by decide)
    have e73 : hs V 70 2 (w32 (V 70 2 + 1)) 73 = V 73 := hs_ne (by decide)
    have e94 : hs V 70 2 (w32 (V 70 2 + 1)) 94 = V 94 := hs_ne (by decide)
    have e91 : hs V 70 2 (w32 (V 70 2 + 1)) 91 = V 91 := hs_ne (by decide)
    have eg : tnOk (hs V 70 2 (w32 (V 70 2 + 1))) n = tnOk V n := by unfold tnOk nS nN; rw [e91, e94]
    refine c_turnM (d := d + 7) hv.m (by rw [e71]; exact hm) (by rw [e71, hc]; omega) (fun _ => ⟨rfl, ?_⟩) (fun q => absurd (by rw [eg] at q; exact q) hg)
    rw [e73]
    exact h.ref (i := 2) (by decide)
set_option maxRecDepth 20000 in
theorem p_swap (h : Inv0 V) {a b : Int} : Pair V (d + 10) EO_swap MO_swap [va 1, vi a, vi b] [va 71, vi a, vi b] := by
  have hI := h.1
  have hA := h.2.2.2.2.2.1
  unfold Pair
  rw [show d + 10 = (d + 6) + 4 from rfl, q_swapC hI hA]
  obtain ⟨hm, a1, a2, c, hc, hc30, -⟩ := id hA
  by_cases hg : swOk V a b
  · rw [if_pos hg]
    obtain ⟨s, rfl⟩ := Int.eq_ofNat_of_zero_le hg.1.1
    obtain ⟨r, rfl⟩ := Int.eq_ofNat_of_zero_le hg.2.1.1
    have hn := hI.boat.s
    have hs' : s < nS V := Int.ofNat_lt.mp hg.1.2
    have hr' : r < nS V := Int.ofNat_lt.mp hg.2.1.2
    have hne : s ≠ r := fun z => hg.2.2.1 (by rw [z])
    have hs12 : s < 12 := Nat.lt_of_lt_of_le hs' hn.2
    have hr12 : r < 12 := Nat.lt_of_lt_of_le hr' hn.2
    rw [hI.cc.sits s hs', hI.cc.sits r hr']
    have h1 : Fx clS (ntH V 1 s r) (hs (hs (ntH V 1 s r) 18 s (V 107 r)) 18 r (V 107 s)) := (Fx.rf.hs (c := 18) rfl).hs (c := 18) rfl
    have e18 : ∀ q : Nat, q < nS V → hs (hs (ntH V 1 s r) 18 s (V 107 r)) 18 r (V 107 s) 18 q = if q = r then V 107 s else if q = s then V 107 r else V 107 q := fun q hq => by
      rw [hs_at, hs_at, nt_c (by decide), hI.cc.sits q hq]
      simp only [Int.ofNat_inj]
    have e19 : hs (hs (ntH V 1 s r) 18 s (V 107 r)) 18 r (V 107 s) 19 = V 19 := by rw [hs_ne (by decide), hs_ne (by decide), nt_c (by decide)]
    have e4 : ∀ j, (j ≠ 10 ∧ j ≠ 11) → hs (hs (ntH V 1 s r) 18 s (V 107 r)) 18 r (V 107 s) 4 j = V 4 j := fun j hj => by rw [hs_ne (by decide), hs_ne (by decide), nt_4 hj]
    generalize hs (hs (ntH V 1 s r) 18 s (V 107 r)) 18 r (V 107 s) = H1 at *
    obtain ⟨hS1, hM1, e71, e107, e91, e94, g⟩ := act_mid h h1
    have eS : nS H1 = nS V := by unfold nS nN; rw [e91]
    have eg : swOk H1 s r = swOk V s r := by unfold swOk; rw [eS, e107]
    refine c_swapM (d := d + 7) hM1 (by rw [e71]; exact hm) (by rw [e71, hc]; omega) (fun q => absurd (by rw [eg]; exact hg) q) (fun _ H2 hK => ⟨rfl, ?_⟩)
    rw [e107]
    have hcm := hI.crew
    have k71 : ∀ j, j ≠ 55 → j ≠ 56 → hs (hs H2 107 s (V 107 r)) 107 r (V 107 s) 71 j = V 71 j := fun j j3 j4 => by
      rw [hs_ne (by decide), hs_ne (by decide), hK.1 71 j (by show (decide (j = 55) || decide (j = 56)) = false; simp [j3, j4]), e71]
    have k107 : ∀ q : Nat, hs (hs H2 107 s (V 107 r)) 107 r (V 107 s) 107 q = if q = r then V 107 s else if q = s then V 107 r else V 107 q := fun q => by
      rw [hs_at, hs_at, hK.1.cell 107 (fun _ => rfl), e107]
      simp only [Int.ofNat_inj]
    have m47 := k71 47 (by decide) (by decide)
    have m48 := k71 48 (by decide) (by decide)
    have m49 := k71 49 (by decide) (by decide)
    have m57 := k71 57 (by decide) (by decide)
    have hst := hcm.sides
    refine act_done h h1 hK ((Fx.rf.hs (c := 107) rfl).hs (c := 107) rfl) ?_ ⟨sdV V, ?_, hst.2⟩ ?_ ?_ ?_ ?_ ?_ ?_ ?_ ?_ ?_ ?_
    · rw [m47]; exact hcm.1
    · rw [m49]; exact hst.1
    · intro q hq
      rw [k107]
      split
      · exact hcm.sits s hs'
      · split
        · exact hcm.sits r hr'
        · exact hcm.sits q hq
    · intro q h1q h2q
      rw [k107, if_neg (by omega), if_neg (by omega)]
      exact hcm.off q h1q h2q
    · rw [m57]; exact hcm.seed
    · rw [m48]; exact hcm.2.2.2.2.2
    · rw [m47, e4 3 (by decide)]; exact hI.cc.stroke
    · rw [m48, e4 4 (by decide)]; exact hI.cc.heading
    · rw [m57, e4 5 (by decide)]; exact hI.cc.drawn
    · intro q hq
      rw [k107, e18 q hq]
    · intro q hq
      rw [m49, e19]
      exact hI.cc.right q hq
    · refine Or.inr (Or.inl ⟨rfl, ⟨s, r, rfl, rfl, hs', hr', hne, fun q _ => ?_⟩, m47.symm, m48.symm, m49.symm⟩)
      rw [k107, k107, k107]
      by_cases z1 : q = s
      · subst z1
        rw [if_pos rfl, if_pos rfl]
      · rw [if_neg z1]
        by_cases z2 : q = r
        · subst z2
          rw [if_pos rfl, if_neg (fun z => hne z), if_pos rfl]
        · rw [if_neg z2, if_neg z2, if_neg z1]
  · rw [if_neg hg]
    have hv : Inq (hs V 70 2 (w32 (V 70 2 + 1))) := hI.vq (Vq.rf.hs (c := 70) (j := 2) rfl)
    have e71 : hs V 70 2 (w32 (V 70 2 + 1)) 71 = V 71 := hs_ne (by decide)
    have e73 : hs V 70 2 (w32 (V 70 2 + 1)) 73 = V 73 := hs_ne (by decide)
    have e107 : hs V 70 2 (w32 (V 70 2 + 1)) 107 = V 107 := hs_ne (by decide)
    have e91 : hs V 70 2 (w32 (V 70 2 + 1)) 91 = V 91 := hs_ne (by decide)
    have eg : swOk (hs V 70 2 (w32 (V 70 2 + 1))) a b = swOk V a b := by unfold swOk nS nN; rw [e91, e107]
    refine c_swapM (d := d + 7) hv.m (by rw [e71]; exact hm) (by rw [e71, hc]; omega) (fun _ => ⟨rfl, ?_⟩) (fun q => absurd (by rw [eg] at q; exact q) hg)
    rw [e73]
    exact h.ref (i := 2) (by decide)
end PTU
